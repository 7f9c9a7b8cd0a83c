section
/-! THE ABSTRACT MACHINE: runs the bytecode over a memory of numbers; what it answers, the machine answers (80.sound) -/
abbrev xM : Type := Nat → Nat → Int32
abbrev xO : Type := List (Nat × (Nat → Int32))
abbrev xSh : Type := (Nat × List Nat) ⊕ (Bool × Nat)
abbrev xS : Type := List xSh
abbrev xL : Type := List (Nat × Value)
abbrev xX : Type := Nat × (Nat → Int32)
/-- an instruction's row: place, instruction, length, target, constant, cases -/
abbrev xEn : Type := Nat × Instr × Nat × Nat × Int32 × List (Int32 × Nat)
/-- a method: its class, its code in chunks of 32 bytes, labels, what it answers, is it a constructor -/
abbrev xT : Type := Nat × List (List xEn) × List (Nat × List Nat × List Nat × List Nat) × Option FieldType × Bool × Nat
abbrev xC : Type := Nat × xL × List Value × xS × xO × Int64
abbrev xOut : Type := Option Value × xS × xO × Int64
abbrev xAc : Type := xOut ⊕ ((Nat × List Value × xC) ⊕ xC)
/-- tables that say what a constant pool's places mean -/
abbrev xTF : Type := List (List (Nat × Nat × Nat × FieldType × Bool))
abbrev xTC : Type := List (List (Nat × Nat × Nat × Nat × Nat))
abbrev xTK : Type := List (List (Nat × Value))
abbrev xTN : Type := List (List (Nat × Nat × List Nat))
/-- all tables: methods, fields, calls, constants, statics, news, static arrays, texts, the long field's place -/
abbrev xP : Type := List xT × xTF × xTC × xTK × xTK × xTN × List (List Int32) × List (List Int32) × Nat

def xfind {α : Type} : List (Nat × α) → Nat → Option α
  | [], _ => none
  | (j, a) :: l, i => bif Nat.beq j i then some a else xfind l i
def xnth {α : Type} : List α → Nat → Option α
  | [], _ => none
  | a :: _, 0 => some a
  | _ :: l, i + 1 => xnth l i
def xget : xO → xM → Nat → (Nat → Int32)
  | [], σ, c => σ c
  | (j, f) :: l, σ, c => bif Nat.beq j c then f else xget l σ c
def xset : xO → Nat → (Nat → Int32) → xO
  | [], c, f => [(c, f)]
  | (j, g) :: l, c, f => bif Nat.beq j c then (c, f) :: l else bif Nat.ble j c then (j, g) :: xset l c f else (c, f) :: (j, g) :: l
def xmrg : xO → xO → xO
  | o, [] => o
  | o, (c, f) :: l => xset (xmrg o l) c f
def xdf (c : Nat) (f : Nat → Int32) : Nat → Int32 := bif Nat.beq (c % 100) 0 then f else (fun _ => f 0)
def xaddI (K : xO → xO) (σ : xM) (c : Nat) : xO → xO
  | [] => (c, xdf c (σ c)) :: K []
  | (j, g) :: o => bif Nat.beq j c then (j, g) :: K o else bif Nat.ble j c then (j, g) :: xaddI K σ c o else (c, xdf c (xget ((j, g) :: o) σ c)) :: K ((j, g) :: o)
def xadd (σ : xM) : List Nat → xO → xO
  | [], o => o
  | c :: cs, o => xaddI (xadd σ cs) σ c o
def xlins : xL → Nat → Value → xL
  | [], i, v => [(i, v)]
  | (j, w) :: l, i, v => bif Nat.ble j i then (j, w) :: xlins l i v else (i, v) :: (j, w) :: l
def xls1 (lv : xL) (i : Nat) (v : Value) : xL := xlins (lv.filter (fun q => !(q.1 == i) && !(q.1 + 1 == i && q.2.category == 2))) i v
def xls2 (lv : xL) (i : Nat) (v : Value) : xL := xlins (lv.filter (fun q => !(q.1 == i) && (!(q.1 == i + 1) && !(q.1 + 1 == i && q.2.category == 2)))) i v
def xmem : List Nat → Nat → Bool
  | [], _ => false
  | j :: l, i => bif Nat.beq j i then true else xmem l i
def xkeep : xL → List Nat → xL
  | [], _ => []
  | (j, v) :: l, ks => bif xmem ks j then (j, v) :: xkeep l ks else xkeep l ks
/-- a label's cells that are told by the local that holds the array -/
def xaddr (σ : xM) (lv : xL) : List Nat → xO → xO
  | [], o => o
  | j :: l, o => match xfind lv j with
    | some (.ref q) => xaddr σ lv l (xadd σ [100 * q] o)
    | _ => xaddr σ lv l o
abbrev inr (i : Int32) (n : Nat) : Prop := 0 ≤ i.toInt ∧ i.toInt < (n : Int)
def xb (b : Bool) : Int32 := bif b then 1 else 0
/-- the label of a place, if it has one -/
def xnx (M : xT) (pc : Nat) : Nat := bif (xfind M.2.2.1 pc).isSome then pc + 100000 else pc
def xgt (M : xT) (pc : Nat) (lv : xL) (st : List Value) (sh : xS) (ol : xO) (lg : Int64) : Option xAc := some (.inr (.inr (xnx M pc, lv, st, sh, ol, lg)))
def xbr (M : xT) (cd : Jvm.ClassFile.Cond) (x y : Int32) (a b : Nat) : Nat := match cd with
  | .eq => if x = y then xnx M a else xnx M b
  | .ne => if x = y then xnx M b else xnx M a
  | .lt => if x < y then xnx M a else xnx M b
  | .ge => if y ≤ x then xnx M a else xnx M b
  | .gt => if y < x then xnx M a else xnx M b
  | .le => if x ≤ y then xnx M a else xnx M b
def xsw (M : xT) : List (Int32 × Nat) → Nat → Int32 → Nat
  | [], d, _ => xnx M d
  | (v, t) :: l, d, x => if x = v then xnx M t else xsw M l d x
/-- an array of ints or chars: is it of chars, its length, what it holds -/
def xarr (P : xP) (X : xX) (σ : xM) (sh : xS) (ol : xO) : Value → Option (Nat × Nat × (Nat → Int32))
  | .ref q => bif Nat.ble q 899 then (match xnth sh q with
      | some (.inr (ch, n)) => some (bif ch then 1 else 0, n, xget ol σ (100 * q))
      | _ => none)
    else bif Nat.beq q 900 then some (0, X.1, X.2)
    else (match xnth P.2.2.2.2.2.2.1 (q - 1000) with
      | some l => some (0, l.length, fun j => l.getD j 0)
      | none => none)
  | .float b => some (2, (P.2.2.2.2.2.2.2.1.getD (b.toNat % P.2.2.2.2.2.2.2.1.length) []).length, fun j => (P.2.2.2.2.2.2.2.1.getD (b.toNat % P.2.2.2.2.2.2.2.1.length) []).getD j 0)
  | _ => none
def xaload (P : xP) (M : xT) (X : xX) (σ : xM) (kd : Nat) (pc : Nat) (lv : xL) (sh : xS) (ol : xO) (lg : Int64) : List Value → Option xAc
  | .int i :: v :: r => match xarr P X σ sh ol v with
    | some (k, n, f) => bif Nat.beq k kd then (if inr i n then xgt M pc lv (.int (f i.toNatClampNeg) :: r) sh ol lg else none) else none
    | none => none
  | _ => none
def xnar (kd : Nat) (x : Int32) : Int32 := bif Nat.beq kd 1 then vp_nar .char x else x
def xastore (M : xT) (σ : xM) (kd : Nat) (pc : Nat) (lv : xL) (sh : xS) (ol : xO) (lg : Int64) : List Value → Option xAc
  | .int x :: .int i :: .ref q :: r => bif Nat.ble q 899 then (match xnth sh q with
    | some (.inr (ch, n)) => bif Nat.beq (bif ch then 1 else 0) kd then (if inr i n then xgt M pc lv r sh (xset ol (100 * q) (upd (xget ol σ (100 * q)) i.toNatClampNeg (xnar kd x))) lg else none) else none
    | _ => none) else none
  | _ => none
def xgetf (P : xP) (M : xT) (σ : xM) (idx pc : Nat) (lv : xL) (sh : xS) (ol : xO) (lg : Int64) (st : List Value) : Option xAc := match xfind (P.2.1.getD M.1 []) idx with
  | some (ci, k, _, _) => (match st with
    | .ref q :: r => bif Nat.ble q 899 then (match xnth sh q with
      | some (.inl (ci', tags)) => bif Nat.beq ci' ci then (match xnth tags k with
        | some 0 => xgt M pc lv (.int (xget ol σ (100 * q + k + 1) 0) :: r) sh ol lg
        | some 1 => bif Nat.beq (100 * q + k + 1) P.2.2.2.2.2.2.2.2 then xgt M pc lv (.long lg :: r) sh ol lg else none
        | some 2 => none
        | some (t + 3) => bif Nat.ble t 899 then xgt M pc lv (.ref t :: r) sh ol lg else none
        | none => none) else none
      | _ => none) else none
    | .retAddr w :: r => bif Nat.beq ci 100 then (bif Nat.beq k 0 then xgt M pc lv (.float (UInt32.ofNat (w % 4096)) :: r) sh ol lg else xgt M pc lv (.int 0 :: r) sh ol lg) else none
    | _ => none)
  | none => none
def xputf (P : xP) (M : xT) (σ : xM) (idx pc : Nat) (lv : xL) (sh : xS) (ol : xO) (lg : Int64) (st : List Value) : Option xAc := match xfind (P.2.1.getD M.1 []) idx with
  | some (ci, k, ty, fin) => bif !fin || (M.2.2.2.2.1 && Nat.beq M.1 (ci + 1)) then (match st with
    | v :: .ref q :: r => bif Nat.ble q 899 then (match xnth sh q with
      | some (.inl (ci', tags)) => bif Nat.beq ci' ci then (match xnth tags k, v, ty with
        | some 0, .int x, .int => xgt M pc lv r sh (xset ol (100 * q + k + 1) (fun _ => x)) lg
        | some 0, .int x, .boolean => if x = 0 ∨ x = 1 then xgt M pc lv r sh (xset ol (100 * q + k + 1) (fun _ => x)) lg else none
        | some 1, .long x, .long => bif Nat.beq (100 * q + k + 1) P.2.2.2.2.2.2.2.2 then xgt M pc lv r sh ol x else none
        | some 2, .ref t, .object _ => bif Nat.ble t 899 then xgt M pc lv r (sh.set q (.inl (ci, tags.set k (t + 3)))) ol lg else none
        | some 2, .ref t, .array _ => bif Nat.ble t 899 then xgt M pc lv r (sh.set q (.inl (ci, tags.set k (t + 3)))) ol lg else none
        | _, _, _ => none) else none
      | _ => none) else none
    | _ => none) else none
  | none => none
/-- cells of a new object: its numbers are 0 -/
def xzero (q : Nat) : Nat → List Nat → xO → xO
  | _, [], o => o
  | k, t :: l, o => xzero q (k + 1) l (bif Nat.beq t 0 then xset o (100 * q + k + 1) (fun _ => 0) else o)
def xmax (x y : Int32) : Int32 := if x < y then y else x
def xmin (x y : Int32) : Int32 := if y < x then y else x
def xmaxl (x y : Int64) : Int64 := if y < x then x else y
def xcat (st : List Value) : Nat := (st.map fun v => v.category).sum
def xcallA (P : xP) (M : xT) (σ : xM) (kd idx pc : Nat) (lv : xL) (sh : xS) (ol : xO) (lg : Int64) (st : List Value) : Option xAc := match xfind (P.2.2.1.getD M.1 []) idx with
  | some (kind, k', n, rcv) => bif Nat.beq kind kd then (
      bif Nat.beq kd 3 then (match st with
        | .int n :: .int dp :: .ref q1 :: .int sp :: .ref q0 :: r => bif Nat.ble q0 899 && (Nat.ble q1 899 && Nat.ble (xcat r) 8) then (match xnth sh q0, xnth sh q1 with
          | some (.inr (false, n0)), some (.inr (false, n1)) => if 0 ≤ sp.toInt ∧ 0 ≤ dp.toInt ∧ 0 ≤ n.toInt ∧ sp.toInt + n.toInt ≤ (n0 : Int) ∧ dp.toInt + n.toInt ≤ (n1 : Int) then
              xgt M pc lv r sh (xset ol (100 * q1) (va_cpy (xget ol σ (100 * q0)) (xget ol σ (100 * q1)) sp.toNatClampNeg dp.toNatClampNeg n.toNatClampNeg)) lg else none
          | _, _ => none) else none
        | _ => none)
      else bif Nat.beq kd 4 then (match st with
        | .ref q :: r => bif Nat.ble q 899 && Nat.ble (xcat r) 8 then xgt M pc lv r sh ol lg else none
        | _ => none)
      else bif Nat.beq kd 5 then (match st with
        | .int y :: .int x :: r => bif Nat.ble (xcat r) 8 then xgt M pc lv (.int (xmax x y) :: r) sh ol lg else none
        | _ => none)
      else bif Nat.beq kd 6 then (match st with
        | .int y :: .int x :: r => bif Nat.ble (xcat r) 8 then xgt M pc lv (.int (xmin x y) :: r) sh ol lg else none
        | _ => none)
      else bif Nat.beq kd 7 then (match st with
        | .long y :: .long x :: r => bif Nat.ble (xcat r) 8 then xgt M pc lv (.long (xmaxl x y) :: r) sh ol lg else none
        | _ => none)
      else bif Nat.ble n st.length && Nat.ble (xcat (st.drop n)) 8 then
        (bif (match (st.drop (n - 1)), rcv with
          | _, 0 => true
          | .ref q :: _, c + 1 => Nat.ble q 899 && (match xnth sh q with
            | some (.inl (ci', _)) => Nat.beq ci' c
            | _ => false)
          | .retAddr _ :: _, c + 1 => Nat.beq c 100
          | _, _ => false) then some (.inr (.inl (k', (st.take n).reverse, (xnx M pc, lv, st.drop n, sh, ol, lg)))) else none)
      else none) else none
  | none => none
def xret (M : xT) (sh : xS) (ol : xO) (lg : Int64) (r : Option Value) : Option xAc := some (.inl (r, sh, ol, lg))
def xirem (x y : Int32) : Int32 := x - x / y * y
def xlrem (x y : Int64) : Int64 := x - x / y * y
def xush (x y : Int32) : Int32 := (x.toUInt32 >>> (y.toUInt32 &&& Int32.toUInt32 31)).toInt32
def xshl (x y : Int32) : Int32 := x <<< (y &&& 31)
def xshr (x y : Int32) : Int32 := x >>> (y &&& 31)
def xi2c (x : Int32) : Int32 := (x.toUInt32 % 65536).toInt32
def xi2b (x : Int32) : Int32 := x.toInt8.toInt32
def xi2s (x : Int32) : Int32 := x.toInt16.toInt32
def xin2 (M : xT) (f : Int32 → Int32 → Int32) (pc : Nat) (lv : xL) (sh : xS) (ol : xO) (lg : Int64) : List Value → Option xAc
  | .int y :: .int x :: r => xgt M pc lv (.int (f x y) :: r) sh ol lg
  | _ => none
def xin1 (M : xT) (f : Int32 → Int32) (pc : Nat) (lv : xL) (sh : xS) (ol : xO) (lg : Int64) : List Value → Option xAc
  | .int x :: r => xgt M pc lv (.int (f x) :: r) sh ol lg
  | _ => none
def xln2 (M : xT) (f : Int64 → Int64 → Int64) (pc : Nat) (lv : xL) (sh : xS) (ol : xO) (lg : Int64) : List Value → Option xAc
  | .long y :: .long x :: r => xgt M pc lv (.long (f x y) :: r) sh ol lg
  | _ => none
def xind (M : xT) (f : Int32 → Int32 → Int32) (pc : Nat) (lv : xL) (sh : xS) (ol : xO) (lg : Int64) : List Value → Option xAc
  | .int y :: .int x :: r => if y = 0 then none else xgt M pc lv (.int (f x y) :: r) sh ol lg
  | _ => none
def xlnd (M : xT) (f : Int64 → Int64 → Int64) (pc : Nat) (lv : xL) (sh : xS) (ol : xO) (lg : Int64) : List Value → Option xAc
  | .long y :: .long x :: r => if y = 0 then none else xgt M pc lv (.long (f x y) :: r) sh ol lg
  | _ => none
/-- a load of a local: of kind 0 int, 1 long, 2 reference -/
def xld (M : xT) (kd i pc : Nat) (lv : xL) (st : List Value) (sh : xS) (ol : xO) (lg : Int64) : Option xAc := match xfind lv i, kd with
  | some (.int x), 0 => xgt M pc lv (.int x :: st) sh ol lg
  | some (.long x), 1 => xgt M pc lv (.long x :: st) sh ol lg
  | some (.ref q), 2 => xgt M pc lv (.ref q :: st) sh ol lg
  | some (.retAddr q), 2 => xgt M pc lv (.retAddr q :: st) sh ol lg
  | some (.float q), 2 => xgt M pc lv (.float q :: st) sh ol lg
  | _, _ => none
def xst (M : xT) (kd i pc : Nat) (lv : xL) (sh : xS) (ol : xO) (lg : Int64) (st : List Value) : Option xAc := match st, kd with
  | .int x :: r, 0 => xgt M pc (xls1 lv i (.int x)) r sh ol lg
  | .long x :: r, 1 => xgt M pc (xls2 lv i (.long x)) r sh ol lg
  | .ref q :: r, 2 => xgt M pc (xls1 lv i (.ref q)) r sh ol lg
  | _, _ => none
def xexec (P : xP) (M : xT) (X : xX) (σ : xM) (i : Instr) (tgt : Nat) (cv : Int32) (cs : List (Int32 × Nat)) (pc : Nat) (lv : xL) (st : List Value) (sh : xS) (ol : xO) (lg : Int64) : Option xAc :=
  match i with
  | .aload j => xld M 2 j pc lv st sh ol lg
  | .aload_n j => xld M 2 j pc lv st sh ol lg
  | .iload j => xld M 0 j pc lv st sh ol lg
  | .iload_n j => xld M 0 j pc lv st sh ol lg
  | .lload j => xld M 1 j pc lv st sh ol lg
  | .lload_n j => xld M 1 j pc lv st sh ol lg
  | .astore j => xst M 2 j pc lv sh ol lg st
  | .astore_n j => xst M 2 j pc lv sh ol lg st
  | .istore j => xst M 0 j pc lv sh ol lg st
  | .istore_n j => xst M 0 j pc lv sh ol lg st
  | .lstore j => xst M 1 j pc lv sh ol lg st
  | .lstore_n j => xst M 1 j pc lv sh ol lg st
  | .iconst _ => xgt M pc lv (.int cv :: st) sh ol lg
  | .bipush _ => xgt M pc lv (.int cv :: st) sh ol lg
  | .sipush _ => xgt M pc lv (.int cv :: st) sh ol lg
  | .lconst n => xgt M pc lv (.long (Int64.ofNat n) :: st) sh ol lg
  | .ldc j => (match xfind (P.2.2.2.1.getD M.1 []) j with
    | some (.int x) => xgt M pc lv (.int x :: st) sh ol lg
    | some (.retAddr w) => xgt M pc lv (.retAddr w :: st) sh ol lg
    | _ => none)
  | .ldc_w j => (match xfind (P.2.2.2.1.getD M.1 []) j with
    | some (.int x) => xgt M pc lv (.int x :: st) sh ol lg
    | _ => none)
  | .ldc2_w j => (match xfind (P.2.2.2.1.getD M.1 []) j with
    | some (.long x) => xgt M pc lv (.long x :: st) sh ol lg
    | _ => none)
  | .iadd => xin2 M (fun x y => x + y) pc lv sh ol lg st
  | .isub => xin2 M (fun x y => x - y) pc lv sh ol lg st
  | .imul => xin2 M (fun x y => x * y) pc lv sh ol lg st
  | .iand => xin2 M (fun x y => x &&& y) pc lv sh ol lg st
  | .ior => xin2 M (fun x y => x ||| y) pc lv sh ol lg st
  | .ixor => xin2 M (fun x y => x ^^^ y) pc lv sh ol lg st
  | .ishl => xin2 M xshl pc lv sh ol lg st
  | .ishr => xin2 M xshr pc lv sh ol lg st
  | .iushr => xin2 M xush pc lv sh ol lg st
  | .idiv => xind M (fun x y => x / y) pc lv sh ol lg st
  | .irem => xind M xirem pc lv sh ol lg st
  | .ineg => xin1 M (fun x => -x) pc lv sh ol lg st
  | .i2b => xin1 M xi2b pc lv sh ol lg st
  | .i2s => xin1 M xi2s pc lv sh ol lg st
  | .i2c => xin1 M xi2c pc lv sh ol lg st
  | .i2l => (match st with
    | .int x :: r => xgt M pc lv (.long x.toInt64 :: r) sh ol lg
    | _ => none)
  | .l2i => (match st with
    | .long x :: r => xgt M pc lv (.int x.toInt32 :: r) sh ol lg
    | _ => none)
  | .ladd => xln2 M (fun x y => x + y) pc lv sh ol lg st
  | .lsub => xln2 M (fun x y => x - y) pc lv sh ol lg st
  | .lmul => xln2 M (fun x y => x * y) pc lv sh ol lg st
  | .ldiv => xlnd M (fun x y => x / y) pc lv sh ol lg st
  | .lrem => xlnd M xlrem pc lv sh ol lg st
  | .lcmp => (match st with
    | .long y :: .long x :: r => xgt M pc lv (.int (lg_cmp x y) :: r) sh ol lg
    | _ => none)
  | .iinc j _ => (match xfind lv j with
    | some (.int x) => xgt M pc (xls1 lv j (.int (x + cv))) st sh ol lg
    | _ => none)
  | .pop => (match st with
    | v :: r => bif Nat.beq v.category 1 then xgt M pc lv r sh ol lg else none
    | _ => none)
  | .dup => (match st with
    | v :: r => bif Nat.beq v.category 1 then xgt M pc lv (v :: v :: r) sh ol lg else none
    | _ => none)
  | .dup2 => (match st with
    | v :: w :: r => bif Nat.beq v.category 1 && Nat.beq w.category 1 then xgt M pc lv (v :: w :: v :: w :: r) sh ol lg else none
    | _ => none)
  | .goto _ => xgt M tgt lv st sh ol lg
  | .ifCond cd _ => (match st with
    | .int x :: r => some (.inr (.inr (xbr M cd x 0 tgt pc, lv, r, sh, ol, lg)))
    | _ => none)
  | .if_icmp cd _ => (match st with
    | .int y :: .int x :: r => some (.inr (.inr (xbr M cd x y tgt pc, lv, r, sh, ol, lg)))
    | _ => none)
  | .tableswitch _ _ _ _ => (match st with
    | .int x :: r => some (.inr (.inr (xsw M cs tgt x, lv, r, sh, ol, lg)))
    | _ => none)
  | .getfield j => xgetf P M σ j pc lv sh ol lg st
  | .putfield j => xputf P M σ j pc lv sh ol lg st
  | .getstatic j => (match xfind (P.2.2.2.2.1.getD M.1 []) j with
    | some v => xgt M pc lv (v :: st) sh ol lg
    | none => none)
  | .iaload => xaload P M X σ 0 pc lv sh ol lg st
  | .caload => xaload P M X σ 1 pc lv sh ol lg st
  | .baload => xaload P M X σ 2 pc lv sh ol lg st
  | .iastore => xastore M σ 0 pc lv sh ol lg st
  | .castore => xastore M σ 1 pc lv sh ol lg st
  | .arraylength => (match st with
    | v :: r => (match xarr P X σ sh ol v with
      | some (_, n, _) => xgt M pc lv (.int (nI n) :: r) sh ol lg
      | none => none)
    | _ => none)
  | .newarray aty => (match st, aty with
    | .int n :: r, .int => if (0 ≤ n.toInt ∧ n.toInt ≤ 65536) ∧ sh.length ≤ 899 then xgt M pc lv (.ref sh.length :: r) (sh ++ [.inr (false, n.toNatClampNeg)]) (xset ol (100 * sh.length) (fun _ => 0)) lg else none
    | .int n :: r, .char => if (0 ≤ n.toInt ∧ n.toInt ≤ 65536) ∧ sh.length ≤ 899 then xgt M pc lv (.ref sh.length :: r) (sh ++ [.inr (true, n.toNatClampNeg)]) (xset ol (100 * sh.length) (fun _ => 0)) lg else none
    | _, _ => none)
  | .new j => (match xfind (P.2.2.2.2.2.1.getD M.1 []) j with
    | some (ci, tags) => bif Nat.ble sh.length 899 && (!(xmem tags 1) || Nat.ble (100 * sh.length) P.2.2.2.2.2.2.2.2) then xgt M pc lv (.ref sh.length :: st) (sh ++ [.inl (ci, tags)]) (xzero sh.length 0 tags ol) (bif xmem tags 1 then 0 else lg) else none
    | none => none)
  | .invokestatic j => (match xfind (P.2.2.1.getD M.1 []) j with
    | some (kind, _, _, _) => bif Nat.beq kind 4 || (Nat.beq kind 1 || Nat.beq kind 2) then none else xcallA P M σ kind j pc lv sh ol lg st
    | none => none)
  | .invokevirtual j => xcallA P M σ 1 j pc lv sh ol lg st
  | .invokespecial j => (match xfind (P.2.2.1.getD M.1 []) j with
    | some (kind, _, _, _) => bif Nat.beq kind 4 || Nat.beq kind 2 then xcallA P M σ kind j pc lv sh ol lg st else none
    | none => none)
  | .return_ => (match st, M.2.2.2.1 with
    | [], none => xret M sh ol lg none
    | _, _ => none)
  | .ireturn => (match st, M.2.2.2.1 with
    | [.int x], some .int => xret M sh ol lg (some (.int x))
    | [.int x], some .boolean => if x = 0 ∨ x = 1 then xret M sh ol lg (some (.int x)) else none
    | [.int x], some .byte => if vp_nar .byte x = x then xret M sh ol lg (some (.int x)) else none
    | [.int x], some .char => if vp_nar .char x = x then xret M sh ol lg (some (.int x)) else none
    | _, _ => none)
  | .lreturn => (match st, M.2.2.2.1 with
    | [.long x], some .long => xret M sh ol lg (some (.long x))
    | _, _ => none)
  | .areturn => (match st, M.2.2.2.1 with
    | [.retAddr w], some (.object _) => xret M sh ol lg (some (.retAddr w))
    | _, _ => none)
  | _ => none
def xact (P : xP) (M : xT) (X : xX) (σ : xM) : xC → Option xAc
  | (pc, lv, st, sh, ol, lg) => bif Nat.ble 100000 pc then (match xfind M.2.2.1 (pc - 100000) with
      | some (ks, cs, rs) => some (.inr (.inr (pc - 100000, xkeep lv ks, st, sh, xadd σ cs (xaddr σ lv rs ol), lg)))
      | none => none)
    else (match xnth M.2.1 (pc / 32) with
      | some ch => (match xfind ch pc with
        | some (i, ln, tgt, cv, cs) => xexec P M X σ i tgt cv cs (pc + ln) lv st sh ol lg
        | none => none)
      | none => none)
abbrev xOrc : Type := Nat → List Value → xS → Int64 → xM → Option xOut
def xgo (P : xP) (orc : xOrc) (M : xT) (X : xX) (σ : xM) : Nat → xC → Option xOut
  | 0, _ => none
  | n + 1, c => match xact P M X σ c with
    | none => none
    | some (.inl o) => some o
    | some (.inr (.inl (k, as, pc, lv, st, sh, ol, lg))) => (match orc k as sh lg (xget ol σ) with
      | none => none
      | some (r, sh', ol', lg') => xgo P orc M X σ n (pc, lv, r.toList ++ st, sh', xmrg ol ol', lg'))
    | some (.inr (.inr c')) => xgo P orc M X σ n c'
def xcall (P : xP) (X : xX) : Nat → Nat → xOrc
  | 0, _ => fun _ _ _ _ _ => none
  | d + 1, N => fun k as sh lg σ => match xnth P.1 k with
    | none => none
    | some M => bif Nat.ble (xcat as) M.2.2.2.2.2 then xgo P (xcall P X d N) M X σ N (0, lv_args 0 as, [], sh, [], lg) else none
def EM (P : xP) (X : xX) (d k : Nat) (as : List Value) (sh : xS) (lg : Int64) (σ : xM) (out : xOut) : Prop := ∃ N, xcall P X d N k as sh lg σ = some out
def E (P : xP) (X : xX) (d : Nat) (M : xT) (σ : xM) (c : xC) (out : xOut) : Prop := ∃ N n, xgo P (xcall P X d N) M X σ n c = some out
def xOrcLe (o o' : xOrc) : Prop := ∀ k as sh lg σ out, o k as sh lg σ = some out → o' k as sh lg σ = some out
theorem xgo_mono {P : xP} {o o' : xOrc} {M : xT} {X : xX} {σ : xM} (h : xOrcLe o o') : ∀ (n m : Nat), n ≤ m → ∀ (c : xC) (out : xOut), xgo P o M X σ n c = some out → xgo P o' M X σ m c = some out := by
  intro n
  induction n with
  | zero => intro m _ c out h; simp [xgo] at h
  | succ n ih =>
    intro m hm c out hr
    cases m with
    | zero => omega
    | succ m =>
      rw [xgo] at hr ⊢
      split at hr
      · simp at hr
      · exact hr
      · split at hr
        · simp at hr
        · rename_i h1
          rw [h _ _ _ _ _ _ h1]
          exact ih m (by omega) _ _ hr
      · exact ih m (by omega) _ _ hr
theorem xcall_mono {P : xP} {X : xX} : ∀ (d d' N N' : Nat), d ≤ d' → N ≤ N' → xOrcLe (xcall P X d N) (xcall P X d' N') := by
  intro d
  induction d with
  | zero => intro d' N N' _ _ k as sh lg σ out h; simp [xcall] at h
  | succ d ih =>
    intro d' N N' hd hN k as sh lg σ out h
    cases d' with
    | zero => omega
    | succ d' =>
      simp only [xcall] at h ⊢
      split at h
      · simp at h
      · rename_i M hM
        cases hb : Nat.ble (xcat as) M.2.2.2.2.2 with
        | false => rw [hb] at h; cases h
        | true =>
          rw [hb, cond_true] at h
          rw [cond_true]
          exact xgo_mono (ih d' N N' (by omega) hN) _ _ hN _ _ h
theorem EM_up {P : xP} {X : xX} {d d' k : Nat} {as : List Value} {sh : xS} {lg : Int64} {σ : xM} {out : xOut} (hd : d ≤ d') (h : EM P X d k as sh lg σ out) : EM P X d' k as sh lg σ out := by
  obtain ⟨N, h⟩ := h
  exact ⟨N, xcall_mono d d' N N hd (Nat.le_refl N) _ _ _ _ _ _ h⟩
theorem EM_of {P : xP} {X : xX} {d k : Nat} {M : xT} {as : List Value} {sh : xS} {lg : Int64} {σ : xM} {out : xOut} (hM : xnth P.1 k = some M) (hn : Nat.ble (xcat as) M.2.2.2.2.2 = true) (h : E P X d M σ (0, lv_args 0 as, [], sh, [], lg) out) : EM P X (d + 1) k as sh lg σ out := by
  obtain ⟨N, n, h⟩ := h
  refine ⟨max N n, ?_⟩
  simp only [xcall, hM, hn, cond_true]
  exact xgo_mono (xcall_mono d d N (max N n) (Nat.le_refl d) (Nat.le_max_left N n)) _ _ (Nat.le_max_right N n) _ _ h
theorem E_stp {P : xP} {X : xX} {d : Nat} {M : xT} {σ : xM} {c : xC} (c' : xC) {out : xOut} (h : xact P M X σ c = some (.inr (.inr c'))) (k : E P X d M σ c' out) : E P X d M σ c out := by
  obtain ⟨N, n, k⟩ := k
  exact ⟨N, n + 1, by rw [xgo, h]; exact k⟩
theorem E_par {P : xP} {X : xX} {d : Nat} {M : xT} {σ : xM} {c : xC} (c' : xC) {out : xOut} {p : Prop} {ip : Decidable p} (h : xact P M X σ c = if p then some (.inr (.inr c')) else none) (hp : p) (k : E P X d M σ c' out) : E P X d M σ c out := by
  rw [if_pos hp] at h
  exact E_stp c' h k
theorem E_parn {P : xP} {X : xX} {d : Nat} {M : xT} {σ : xM} {c : xC} (c' : xC) {out : xOut} {p : Prop} {ip : Decidable p} (h : xact P M X σ c = if p then none else some (.inr (.inr c'))) (hp : ¬ p) (k : E P X d M σ c' out) : E P X d M σ c out := by
  rw [if_neg hp] at h
  exact E_stp c' h k
theorem E_ret {P : xP} {X : xX} {d : Nat} {M : xT} {σ : xM} {c : xC} {out : xOut} (h : xact P M X σ c = some (.inl out)) : E P X d M σ c out := ⟨0, 1, by rw [xgo, h]⟩
theorem E_retp {P : xP} {X : xX} {d : Nat} {M : xT} {σ : xM} {c : xC} {out : xOut} {p : Prop} {ip : Decidable p} (h : xact P M X σ c = if p then some (.inl out) else none) (hp : p) : E P X d M σ c out := E_ret (by rw [h, if_pos hp])
theorem E_call {P : xP} {X : xX} {d d1 : Nat} {M : xT} {σ : xM} {c : xC} {out : xOut} {k : Nat} {as : List Value} {pc : Nat} {lv : xL} {st : List Value} {sh : xS} {ol : xO} {lg : Int64} {r : Option Value} {sh' : xS} {ol' : xO} {lg' : Int64}
    (h : xact P M X σ c = some (.inr (.inl (k, as, pc, lv, st, sh, ol, lg)))) (hc : EM P X d1 k as sh lg (xget ol σ) (r, sh', ol', lg')) (hd : d1 ≤ d) (kk : E P X d M σ (pc, lv, r.toList ++ st, sh', xmrg ol ol', lg') out) : E P X d M σ c out := by
  obtain ⟨N1, hc⟩ := EM_up hd hc
  obtain ⟨N, n, kk⟩ := kk
  refine ⟨max N N1, n + 1, ?_⟩
  rw [xgo, h]
  simp only
  rw [xcall_mono d d N1 (max N N1) (Nat.le_refl d) (Nat.le_max_right N N1) _ _ _ _ _ _ hc]
  exact xgo_mono (xcall_mono d d N (max N N1) (Nat.le_refl d) (Nat.le_max_left N N1)) _ _ (Nat.le_refl n) _ _ kk
def xsteps (P : xP) (M : xT) (X : xX) (σ : xM) : Nat → xC → Option xC
  | 0, c => some c
  | n + 1, c => match xact P M X σ c with
    | some (.inr (.inr c')) => xsteps P M X σ n c'
    | _ => none
theorem E_sts {P : xP} {X : xX} {d : Nat} {M : xT} {σ : xM} : ∀ (n : Nat) {c : xC} (c' : xC) {out : xOut}, xsteps P M X σ n c = some c' → E P X d M σ c' out → E P X d M σ c out := by
  intro n
  induction n with
  | zero => intro c c' out h k; simp only [xsteps, Option.some.injEq] at h; subst h; exact k
  | succ n ih =>
    intro c c' out h k
    rw [xsteps] at h
    split at h
    · rename_i c1 h1
      exact E_stp c1 h1 (ih c' h k)
    · simp at h
end
section
/-! TABLES of the program (by gen/emit.py out of NAMES) -/
def xm_0_0 : List xEn := [(0, .iload_n 0, 1, 0, 0, []), (1, .tableswitch 75 1 6 #[39, 43, 50, 56, 64, 68], 39, 76, 0, [(1, 40), (2, 44), (3, 51), (4, 57), (5, 65), (6, 69)])]
def xm_0_1 : List xEn := [(40, .iload_n 1, 1, 0, 0, []), (41, .iconst 4, 1, 0, 4, []), (42, .idiv, 1, 0, 0, []), (43, .ireturn, 1, 0, 0, []), (44, .iload_n 1, 1, 0, 0, []), (45, .iload_n 2, 1, 0, 0, []), (46, .bipush 10, 2, 0, 10, []), (48, .idiv, 1, 0, 0, []), (49, .iadd, 1, 0, 0, []), (50, .ireturn, 1, 0, 0, []), (51, .iload_n 1, 1, 0, 0, []), (52, .iload_n 2, 1, 0, 0, []), (53, .invokestatic 9, 3, 0, 0, []), (56, .ireturn, 1, 0, 0, []), (57, .iconst 2, 1, 0, 2, []), (58, .iload_n 1, 1, 0, 0, []), (59, .iload_n 2, 1, 0, 0, []), (60, .invokestatic 9, 3, 0, 0, []), (63, .imul, 1, 0, 0, [])]
def xm_0_2 : List xEn := [(64, .ireturn, 1, 0, 0, []), (65, .iload_n 1, 1, 0, 0, []), (66, .iconst 5, 1, 0, 5, []), (67, .iadd, 1, 0, 0, []), (68, .ireturn, 1, 0, 0, []), (69, .iload_n 1, 1, 0, 0, []), (70, .iconst 5, 1, 0, 5, []), (71, .iadd, 1, 0, 0, []), (72, .bipush 20, 2, 0, 20, []), (74, .iadd, 1, 0, 0, []), (75, .ireturn, 1, 0, 0, []), (76, .iload_n 1, 1, 0, 0, []), (77, .ireturn, 1, 0, 0, [])]
/-- X0_noiseOf -/
def xm_0 : xT := (0, [xm_0_0, xm_0_1, xm_0_2], [], some .int, false, 3)
def xm_1_0 : List xEn := [(0, .iconst 0, 1, 0, 0, []), (1, .iload_n 0, 1, 0, 0, []), (2, .iload_n 1, 1, 0, 0, []), (3, .bipush 10, 2, 0, 10, []), (5, .idiv, 1, 0, 0, []), (6, .iadd, 1, 0, 0, []), (7, .iconst 0, 1, 0, 0, []), (8, .iload_n 1, 1, 0, 0, []), (9, .iload_n 0, 1, 0, 0, []), (10, .isub, 1, 0, 0, []), (11, .invokestatic 15, 3, 0, 0, []), (14, .isub, 1, 0, 0, []), (15, .invokestatic 15, 3, 0, 0, []), (18, .ireturn, 1, 0, 0, [])]
/-- X0_fallingNoise -/
def xm_1 : xT := (0, [xm_1_0], [], some .int, false, 2)
def xm_2_0 : List xEn := [(0, .iload_n 0, 1, 0, 0, []), (1, .tableswitch 48 1 6 #[39, 48, 48, 41, 39, 45], 39, 49, 0, [(1, 40), (2, 49), (3, 49), (4, 42), (5, 40), (6, 46)])]
def xm_2_1 : List xEn := [(40, .iconst 0, 1, 0, 0, []), (41, .ireturn, 1, 0, 0, []), (42, .iconst 2, 1, 0, 2, []), (43, .iload_n 1, 1, 0, 0, []), (44, .imul, 1, 0, 0, []), (45, .ireturn, 1, 0, 0, []), (46, .bipush 50, 2, 0, 50, []), (48, .ireturn, 1, 0, 0, []), (49, .iload_n 1, 1, 0, 0, []), (50, .ireturn, 1, 0, 0, [])]
/-- X0_leftBy -/
def xm_2 : xT := (0, [xm_2_0, xm_2_1], [], some .int, false, 2)
def xm_3_0 : List xEn := [(0, .iload_n 0, 1, 0, 0, []), (1, .tableswitch 65 1 6 #[39, 65, 47, 51, 65, 57], 39, 66, 0, [(1, 40), (2, 66), (3, 48), (4, 52), (5, 66), (6, 58)])]
def xm_3_1 : List xEn := [(40, .iconst 1, 1, 0, 1, []), (41, .iload_n 1, 1, 0, 0, []), (42, .iconst 4, 1, 0, 4, []), (43, .idiv, 1, 0, 0, []), (44, .invokestatic 15, 3, 0, 0, []), (47, .ireturn, 1, 0, 0, []), (48, .iload_n 1, 1, 0, 0, []), (49, .iconst 1, 1, 0, 1, []), (50, .iadd, 1, 0, 0, []), (51, .ireturn, 1, 0, 0, []), (52, .iload_n 1, 1, 0, 0, []), (53, .iconst 1, 1, 0, 1, []), (54, .iadd, 1, 0, 0, []), (55, .iconst 5, 1, 0, 5, []), (56, .iadd, 1, 0, 0, []), (57, .ireturn, 1, 0, 0, []), (58, .iconst 1, 1, 0, 1, []), (59, .iload_n 1, 1, 0, 0, []), (60, .iconst 2, 1, 0, 2, []), (61, .idiv, 1, 0, 0, []), (62, .invokestatic 15, 3, 0, 0, [])]
def xm_3_2 : List xEn := [(65, .ireturn, 1, 0, 0, []), (66, .iload_n 1, 1, 0, 0, []), (67, .ireturn, 1, 0, 0, [])]
/-- X0_lastedBy -/
def xm_3 : xT := (0, [xm_3_0, xm_3_1, xm_3_2], [], some .int, false, 2)
def xm_4_0 : List xEn := [(0, .iload_n 0, 1, 0, 0, []), (1, .istore_n 2, 1, 0, 0, []), (2, .iconst 0, 1, 0, 0, []), (3, .istore_n 3, 1, 0, 0, []), (4, .iload_n 3, 1, 0, 0, []), (5, .bipush 7, 2, 0, 7, []), (7, .if_icmp .ge 22, 3, 29, 0, []), (10, .iload_n 2, 1, 0, 0, []), (11, .iload_n 1, 1, 0, 0, []), (12, .if_icmp .ne 5, 3, 17, 0, []), (15, .iconst 1, 1, 0, 1, []), (16, .ireturn, 1, 0, 0, []), (17, .getstatic 20, 3, 0, 0, []), (20, .iload_n 2, 1, 0, 0, []), (21, .iaload, 1, 0, 0, []), (22, .istore_n 2, 1, 0, 0, []), (23, .iinc 3 1, 3, 0, 1, []), (26, .goto (-22), 3, 4, 0, []), (29, .iconst 0, 1, 0, 0, []), (30, .ireturn, 1, 0, 0, [])]
/-- X0_isUnder -/
def xm_4 : xT := (0, [xm_4_0], [(4, [1, 2, 3], [], [])], some .boolean, false, 4)
def xm_5_0 : List xEn := [(0, .aload_n 0, 1, 0, 0, []), (1, .aload_n 1, 1, 0, 0, []), (2, .getfield 39, 3, 0, 0, []), (5, .putfield 45, 3, 0, 0, []), (8, .aload_n 0, 1, 0, 0, []), (9, .aload_n 1, 1, 0, 0, []), (10, .getfield 46, 3, 0, 0, []), (13, .putfield 49, 3, 0, 0, []), (16, .aload_n 0, 1, 0, 0, []), (17, .aload_n 1, 1, 0, 0, []), (18, .getfield 50, 3, 0, 0, []), (21, .ifCond .ne 8, 3, 29, 0, []), (24, .bipush 9, 2, 0, 9, []), (26, .goto 14, 3, 40, 0, []), (29, .aload_n 1, 1, 0, 0, []), (30, .getfield 53, 3, 0, 0, [])]
def xm_5_1 : List xEn := [(33, .aload_n 1, 1, 0, 0, []), (34, .getfield 50, 3, 0, 0, []), (37, .iconst 1, 1, 0, 1, []), (38, .isub, 1, 0, 0, []), (39, .iaload, 1, 0, 0, []), (40, .putfield 56, 3, 0, 0, []), (43, .aload_n 0, 1, 0, 0, []), (44, .iconst 1, 1, 0, 1, []), (45, .aload_n 0, 1, 0, 0, []), (46, .getfield 45, 3, 0, 0, []), (49, .ishl, 1, 0, 0, []), (50, .iconst 1, 1, 0, 1, []), (51, .isub, 1, 0, 0, []), (52, .putfield 59, 3, 0, 0, []), (55, .aload_n 1, 1, 0, 0, []), (56, .getfield 62, 3, 0, 0, []), (59, .iconst 0, 1, 0, 0, []), (60, .aload_n 0, 1, 0, 0, []), (61, .getfield 9, 3, 0, 0, [])]
def xm_5_2 : List xEn := [(64, .iconst 0, 1, 0, 0, []), (65, .bipush 9, 2, 0, 9, []), (67, .invokestatic 63, 3, 0, 0, []), (70, .aload_n 1, 1, 0, 0, []), (71, .getfield 69, 3, 0, 0, []), (74, .iconst 0, 1, 0, 0, []), (75, .aload_n 0, 1, 0, 0, []), (76, .getfield 15, 3, 0, 0, []), (79, .iconst 0, 1, 0, 0, []), (80, .bipush 9, 2, 0, 9, []), (82, .invokestatic 63, 3, 0, 0, []), (85, .aload_n 1, 1, 0, 0, []), (86, .getfield 70, 3, 0, 0, []), (89, .iconst 0, 1, 0, 0, []), (90, .aload_n 0, 1, 0, 0, []), (91, .getfield 18, 3, 0, 0, []), (94, .iconst 0, 1, 0, 0, []), (95, .bipush 9, 2, 0, 9, [])]
def xm_5_3 : List xEn := [(97, .invokestatic 63, 3, 0, 0, []), (100, .return_, 1, 0, 0, [])]
/-- X1_startFrom -/
def xm_5 : xT := (1, [xm_5_0, xm_5_1, xm_5_2, xm_5_3], [(40, [0, 1], [3211, 3212], [])], none, false, 2)
def xm_6_0 : List xEn := [(0, .aload_n 0, 1, 0, 0, []), (1, .getfield 59, 3, 0, 0, []), (4, .aload_n 0, 1, 0, 0, []), (5, .getfield 49, 3, 0, 0, []), (8, .iconst (-1), 1, 0, (-1), []), (9, .ixor, 1, 0, 0, []), (10, .iand, 1, 0, 0, []), (11, .invokestatic 71, 3, 0, 0, []), (14, .ireturn, 1, 0, 0, [])]
/-- X1_rest -/
def xm_6 : xT := (1, [xm_6_0], [], some .int, false, 1)
def xm_7_0 : List xEn := [(0, .iload_n 2, 1, 0, 0, []), (1, .iconst 1, 1, 0, 1, []), (2, .iload_n 1, 1, 0, 0, []), (3, .ishl, 1, 0, 0, []), (4, .iand, 1, 0, 0, []), (5, .ifCond .ne 20, 3, 25, 0, []), (8, .aload_n 0, 1, 0, 0, []), (9, .getfield 18, 3, 0, 0, []), (12, .iload_n 1, 1, 0, 0, []), (13, .iaload, 1, 0, 0, []), (14, .iload_n 2, 1, 0, 0, []), (15, .iconst (-1), 1, 0, (-1), []), (16, .ixor, 1, 0, 0, []), (17, .iand, 1, 0, 0, []), (18, .ifCond .ne 7, 3, 25, 0, []), (21, .iconst 1, 1, 0, 1, []), (22, .goto 4, 3, 26, 0, []), (25, .iconst 0, 1, 0, 0, []), (26, .ireturn, 1, 0, 0, [])]
/-- X1_canFollow -/
def xm_7 : xT := (1, [xm_7_0], [], some .boolean, false, 3)
def xm_8_0 : List xEn := [(0, .aload_n 0, 1, 0, 0, []), (1, .getfield 49, 3, 0, 0, []), (4, .istore_n 1, 1, 0, 0, []), (5, .iconst 0, 1, 0, 0, []), (6, .istore_n 2, 1, 0, 0, []), (7, .iload_n 2, 1, 0, 0, []), (8, .aload_n 0, 1, 0, 0, []), (9, .getfield 45, 3, 0, 0, []), (12, .if_icmp .ge 40, 3, 52, 0, []), (15, .iconst 0, 1, 0, 0, []), (16, .istore_n 3, 1, 0, 0, []), (17, .iload_n 3, 1, 0, 0, []), (18, .aload_n 0, 1, 0, 0, []), (19, .getfield 45, 3, 0, 0, []), (22, .if_icmp .ge 24, 3, 46, 0, []), (25, .aload_n 0, 1, 0, 0, []), (26, .iload_n 3, 1, 0, 0, []), (27, .iload_n 1, 1, 0, 0, []), (28, .invokevirtual 77, 3, 0, 0, []), (31, .ifCond .eq 9, 3, 40, 0, [])]
def xm_8_1 : List xEn := [(34, .iload_n 1, 1, 0, 0, []), (35, .iconst 1, 1, 0, 1, []), (36, .iload_n 3, 1, 0, 0, []), (37, .ishl, 1, 0, 0, []), (38, .ior, 1, 0, 0, []), (39, .istore_n 1, 1, 0, 0, []), (40, .iinc 3 1, 3, 0, 1, []), (43, .goto (-26), 3, 17, 0, []), (46, .iinc 2 1, 3, 0, 1, []), (49, .goto (-42), 3, 7, 0, []), (52, .iload_n 1, 1, 0, 0, []), (53, .aload_n 0, 1, 0, 0, []), (54, .getfield 59, 3, 0, 0, []), (57, .if_icmp .ne 7, 3, 64, 0, []), (60, .iconst 1, 1, 0, 1, []), (61, .goto 4, 3, 65, 0, [])]
def xm_8_2 : List xEn := [(64, .iconst 0, 1, 0, 0, []), (65, .ireturn, 1, 0, 0, [])]
/-- X1_haveWay -/
def xm_8 : xT := (1, [xm_8_0, xm_8_1, xm_8_2], [(7, [0, 1, 2], [], []), (17, [0, 1, 2, 3], [], [])], some .boolean, false, 4)
def xm_9_0 : List xEn := [(0, .iload_n 1, 1, 0, 0, []), (1, .aload_n 0, 1, 0, 0, []), (2, .getfield 49, 3, 0, 0, []), (5, .iand, 1, 0, 0, []), (6, .aload_n 0, 1, 0, 0, []), (7, .getfield 49, 3, 0, 0, []), (10, .if_icmp .eq 5, 3, 15, 0, []), (13, .iconst 0, 1, 0, 0, []), (14, .ireturn, 1, 0, 0, []), (15, .iconst 0, 1, 0, 0, []), (16, .istore_n 2, 1, 0, 0, []), (17, .iload_n 2, 1, 0, 0, []), (18, .aload_n 0, 1, 0, 0, []), (19, .getfield 45, 3, 0, 0, []), (22, .if_icmp .ge 49, 3, 71, 0, []), (25, .iload_n 1, 1, 0, 0, []), (26, .aload_n 0, 1, 0, 0, []), (27, .getfield 49, 3, 0, 0, []), (30, .iconst (-1), 1, 0, (-1), []), (31, .ixor, 1, 0, 0, [])]
def xm_9_1 : List xEn := [(32, .iand, 1, 0, 0, []), (33, .iconst 1, 1, 0, 1, []), (34, .iload_n 2, 1, 0, 0, []), (35, .ishl, 1, 0, 0, []), (36, .iand, 1, 0, 0, []), (37, .ifCond .eq 7, 3, 44, 0, []), (40, .iconst 1, 1, 0, 1, []), (41, .goto 4, 3, 45, 0, []), (44, .iconst 0, 1, 0, 0, []), (45, .istore_n 3, 1, 0, 0, []), (46, .iload_n 3, 1, 0, 0, []), (47, .ifCond .eq 18, 3, 65, 0, []), (50, .aload_n 0, 1, 0, 0, []), (51, .getfield 18, 3, 0, 0, []), (54, .iload_n 2, 1, 0, 0, []), (55, .iaload, 1, 0, 0, []), (56, .iload_n 1, 1, 0, 0, []), (57, .iconst (-1), 1, 0, (-1), []), (58, .ixor, 1, 0, 0, []), (59, .iand, 1, 0, 0, []), (60, .ifCond .eq 5, 3, 65, 0, []), (63, .iconst 0, 1, 0, 0, [])]
def xm_9_2 : List xEn := [(64, .ireturn, 1, 0, 0, []), (65, .iinc 2 1, 3, 0, 1, []), (68, .goto (-51), 3, 17, 0, []), (71, .iconst 1, 1, 0, 1, []), (72, .ireturn, 1, 0, 0, [])]
/-- X1_canStand -/
def xm_9 : xT := (1, [xm_9_0, xm_9_1, xm_9_2], [(17, [0, 1, 2], [], []), (45, [0, 1, 2], [], [])], some .boolean, false, 4)
def xm_10_0 : List xEn := [(0, .iconst 0, 1, 0, 0, []), (1, .istore_n 2, 1, 0, 0, []), (2, .iload_n 2, 1, 0, 0, []), (3, .bipush 9, 2, 0, 9, []), (5, .if_icmp .gt 114, 3, 119, 0, []), (8, .iload_n 2, 1, 0, 0, []), (9, .aload_n 0, 1, 0, 0, []), (10, .getfield 45, 3, 0, 0, []), (13, .if_icmp .ge 21, 3, 34, 0, []), (16, .aload_n 0, 1, 0, 0, []), (17, .getfield 9, 3, 0, 0, []), (20, .iload_n 2, 1, 0, 0, []), (21, .iaload, 1, 0, 0, []), (22, .aload_n 0, 1, 0, 0, []), (23, .getfield 15, 3, 0, 0, []), (26, .iload_n 2, 1, 0, 0, []), (27, .iaload, 1, 0, 0, []), (28, .invokestatic 81, 3, 0, 0, []), (31, .goto 4, 3, 35, 0, [])]
def xm_10_1 : List xEn := [(34, .iconst 0, 1, 0, 0, []), (35, .istore_n 3, 1, 0, 0, []), (36, .iconst 0, 1, 0, 0, []), (37, .istore 4, 2, 0, 0, []), (39, .iload 4, 2, 0, 0, []), (41, .aload_n 0, 1, 0, 0, []), (42, .getfield 45, 3, 0, 0, []), (45, .if_icmp .ge 68, 3, 113, 0, []), (48, .iload_n 3, 1, 0, 0, []), (49, .aload_n 0, 1, 0, 0, []), (50, .getfield 15, 3, 0, 0, []), (53, .iload 4, 2, 0, 0, []), (55, .iaload, 1, 0, 0, []), (56, .if_icmp .le 7, 3, 63, 0, []), (59, .iconst 1, 1, 0, 1, []), (60, .goto 4, 3, 64, 0, []), (63, .iconst 0, 1, 0, 0, [])]
def xm_10_2 : List xEn := [(64, .istore 5, 2, 0, 0, []), (66, .aload_n 0, 1, 0, 0, []), (67, .getfield 21, 3, 0, 0, []), (70, .iload_n 2, 1, 0, 0, []), (71, .bipush 9, 2, 0, 9, []), (73, .imul, 1, 0, 0, []), (74, .iload 4, 2, 0, 0, []), (76, .iadd, 1, 0, 0, []), (77, .iload_n 1, 1, 0, 0, []), (78, .iconst 1, 1, 0, 1, []), (79, .if_icmp .ne 9, 3, 88, 0, []), (82, .iload 5, 2, 0, 0, []), (84, .ineg, 1, 0, 0, []), (85, .goto 21, 3, 106, 0, []), (88, .aload_n 0, 1, 0, 0, []), (89, .getfield 9, 3, 0, 0, []), (92, .iload 4, 2, 0, 0, []), (94, .iaload, 1, 0, 0, []), (95, .aload_n 0, 1, 0, 0, [])]
def xm_10_3 : List xEn := [(96, .getfield 15, 3, 0, 0, []), (99, .iload 4, 2, 0, 0, []), (101, .iaload, 1, 0, 0, []), (102, .iload_n 3, 1, 0, 0, []), (103, .invokestatic 87, 3, 0, 0, []), (106, .iastore, 1, 0, 0, []), (107, .iinc 4 1, 3, 0, 1, []), (110, .goto (-71), 3, 39, 0, []), (113, .iinc 2 1, 3, 0, 1, []), (116, .goto (-114), 3, 2, 0, []), (119, .return_, 1, 0, 0, [])]
/-- X1_score -/
def xm_10 : xT := (1, [xm_10_0, xm_10_1, xm_10_2, xm_10_3], [(2, [0, 1, 2], [3600], []), (39, [0, 1, 2, 3, 4], [3600], []), (64, [0, 1, 2, 3, 4], [3600], []), (119, [], [3600], [])], none, false, 6)
def xm_11_0 : List xEn := [(0, .aload_n 0, 1, 0, 0, []), (1, .iload_n 1, 1, 0, 0, []), (2, .invokevirtual 91, 3, 0, 0, []), (5, .aload_n 0, 1, 0, 0, []), (6, .getfield 59, 3, 0, 0, []), (9, .istore_n 2, 1, 0, 0, []), (10, .iload_n 2, 1, 0, 0, []), (11, .aload_n 0, 1, 0, 0, []), (12, .getfield 49, 3, 0, 0, []), (15, .if_icmp .le 69, 3, 84, 0, []), (18, .aload_n 0, 1, 0, 0, []), (19, .iload_n 2, 1, 0, 0, []), (20, .invokevirtual 95, 3, 0, 0, []), (23, .ifCond .eq 55, 3, 78, 0, []), (26, .aload_n 0, 1, 0, 0, []), (27, .iload_n 2, 1, 0, 0, []), (28, .invokevirtual 99, 3, 0, 0, []), (31, .iconst 0, 1, 0, 0, [])]
def xm_11_1 : List xEn := [(32, .istore_n 3, 1, 0, 0, []), (33, .iload_n 3, 1, 0, 0, []), (34, .aload_n 0, 1, 0, 0, []), (35, .getfield 45, 3, 0, 0, []), (38, .if_icmp .ge 40, 3, 78, 0, []), (41, .iload_n 2, 1, 0, 0, []), (42, .aload_n 0, 1, 0, 0, []), (43, .getfield 49, 3, 0, 0, []), (46, .iconst (-1), 1, 0, (-1), []), (47, .ixor, 1, 0, 0, []), (48, .iand, 1, 0, 0, []), (49, .iconst 1, 1, 0, 1, []), (50, .iload_n 3, 1, 0, 0, []), (51, .ishl, 1, 0, 0, []), (52, .iand, 1, 0, 0, []), (53, .ifCond .eq 19, 3, 72, 0, []), (56, .aload_n 0, 1, 0, 0, []), (57, .getfield 24, 3, 0, 0, []), (60, .iload_n 2, 1, 0, 0, []), (61, .bipush 9, 2, 0, 9, []), (63, .imul, 1, 0, 0, [])]
def xm_11_2 : List xEn := [(64, .iload_n 3, 1, 0, 0, []), (65, .iadd, 1, 0, 0, []), (66, .aload_n 0, 1, 0, 0, []), (67, .iload_n 3, 1, 0, 0, []), (68, .invokevirtual 102, 3, 0, 0, []), (71, .iastore, 1, 0, 0, []), (72, .iinc 3 1, 3, 0, 1, []), (75, .goto (-42), 3, 33, 0, []), (78, .iinc 2 (-1), 3, 0, (-1), []), (81, .goto (-71), 3, 10, 0, []), (84, .aload_n 0, 1, 0, 0, []), (85, .aload_n 0, 1, 0, 0, []), (86, .getfield 49, 3, 0, 0, []), (89, .invokevirtual 99, 3, 0, 0, []), (92, .aload_n 0, 1, 0, 0, []), (93, .aload_n 0, 1, 0, 0, []), (94, .getfield 56, 3, 0, 0, [])]
def xm_11_3 : List xEn := [(97, .invokevirtual 102, 3, 0, 0, []), (100, .ireturn, 1, 0, 0, [])]
/-- X1_weigh -/
def xm_11 : xT := (1, [xm_11_0, xm_11_1, xm_11_2, xm_11_3], [(10, [0, 2], [3208, 3600, 3700, 3800, 3900], []), (33, [0, 2, 3], [3208, 3600, 3700, 3800, 3900], []), (100, [], [3208, 3600, 3700, 3800, 3900], [])], some .int, false, 4)
def xm_12_0 : List xEn := [(0, .aload_n 0, 1, 0, 0, []), (1, .iconst 0, 1, 0, 0, []), (2, .putfield 105, 3, 0, 0, []), (5, .iconst 0, 1, 0, 0, []), (6, .istore_n 2, 1, 0, 0, []), (7, .iload_n 2, 1, 0, 0, []), (8, .aload_n 0, 1, 0, 0, []), (9, .getfield 45, 3, 0, 0, []), (12, .if_icmp .ge 62, 3, 74, 0, []), (15, .aload_n 0, 1, 0, 0, []), (16, .iload_n 2, 1, 0, 0, []), (17, .iload_n 1, 1, 0, 0, []), (18, .invokevirtual 77, 3, 0, 0, []), (21, .ifCond .eq 47, 3, 68, 0, []), (24, .aload_n 0, 1, 0, 0, []), (25, .getfield 27, 3, 0, 0, []), (28, .aload_n 0, 1, 0, 0, []), (29, .getfield 105, 3, 0, 0, [])]
def xm_12_1 : List xEn := [(32, .iload_n 2, 1, 0, 0, []), (33, .iastore, 1, 0, 0, []), (34, .aload_n 0, 1, 0, 0, []), (35, .getfield 30, 3, 0, 0, []), (38, .aload_n 0, 1, 0, 0, []), (39, .getfield 105, 3, 0, 0, []), (42, .aload_n 0, 1, 0, 0, []), (43, .getfield 24, 3, 0, 0, []), (46, .iload_n 1, 1, 0, 0, []), (47, .iconst 1, 1, 0, 1, []), (48, .iload_n 2, 1, 0, 0, []), (49, .ishl, 1, 0, 0, []), (50, .ior, 1, 0, 0, []), (51, .bipush 9, 2, 0, 9, []), (53, .imul, 1, 0, 0, []), (54, .iload_n 2, 1, 0, 0, []), (55, .iadd, 1, 0, 0, []), (56, .iaload, 1, 0, 0, []), (57, .iastore, 1, 0, 0, []), (58, .aload_n 0, 1, 0, 0, []), (59, .dup, 1, 0, 0, []), (60, .getfield 105, 3, 0, 0, []), (63, .iconst 1, 1, 0, 1, [])]
def xm_12_2 : List xEn := [(64, .iadd, 1, 0, 0, []), (65, .putfield 105, 3, 0, 0, []), (68, .iinc 2 1, 3, 0, 1, []), (71, .goto (-64), 3, 7, 0, []), (74, .return_, 1, 0, 0, [])]
/-- X1_findFollowers -/
def xm_12 : xT := (1, [xm_12_0, xm_12_1, xm_12_2], [(7, [0, 1, 2], [3208, 3800, 3900], []), (74, [], [3208, 3800, 3900], [])], none, false, 3)
def xm_13_0 : List xEn := [(0, .ldc 108, 2, 0, 0, []), (2, .istore_n 2, 1, 0, 0, []), (3, .iconst 0, 1, 0, 0, []), (4, .istore_n 3, 1, 0, 0, []), (5, .iload_n 3, 1, 0, 0, []), (6, .aload_n 0, 1, 0, 0, []), (7, .getfield 105, 3, 0, 0, []), (10, .if_icmp .ge 37, 3, 47, 0, []), (13, .iload_n 2, 1, 0, 0, []), (14, .aload_n 0, 1, 0, 0, []), (15, .getfield 21, 3, 0, 0, []), (18, .iload_n 1, 1, 0, 0, []), (19, .bipush 9, 2, 0, 9, []), (21, .imul, 1, 0, 0, []), (22, .aload_n 0, 1, 0, 0, []), (23, .getfield 27, 3, 0, 0, []), (26, .iload_n 3, 1, 0, 0, []), (27, .iaload, 1, 0, 0, []), (28, .iadd, 1, 0, 0, []), (29, .iaload, 1, 0, 0, []), (30, .aload_n 0, 1, 0, 0, []), (31, .getfield 30, 3, 0, 0, [])]
def xm_13_1 : List xEn := [(34, .iload_n 3, 1, 0, 0, []), (35, .iaload, 1, 0, 0, []), (36, .iadd, 1, 0, 0, []), (37, .invokestatic 109, 3, 0, 0, []), (40, .istore_n 2, 1, 0, 0, []), (41, .iinc 3 1, 3, 0, 1, []), (44, .goto (-39), 3, 5, 0, []), (47, .aload_n 0, 1, 0, 0, []), (48, .getfield 105, 3, 0, 0, []), (51, .ifCond .ne 7, 3, 58, 0, []), (54, .iconst 0, 1, 0, 0, []), (55, .goto 4, 3, 59, 0, []), (58, .iload_n 2, 1, 0, 0, []), (59, .ireturn, 1, 0, 0, [])]
/-- X1_mostBehind -/
def xm_13 : xT := (1, [xm_13_0, xm_13_1], [(5, [0, 1, 2, 3], [], [])], some .int, false, 4)
def xm_14_0 : List xEn := [(0, .aload_n 0, 1, 0, 0, []), (1, .iload_n 1, 1, 0, 0, []), (2, .invokevirtual 114, 3, 0, 0, []), (5, .pop, 1, 0, 0, []), (6, .aload_n 0, 1, 0, 0, []), (7, .getfield 49, 3, 0, 0, []), (10, .istore_n 2, 1, 0, 0, []), (11, .aload_n 0, 1, 0, 0, []), (12, .getfield 56, 3, 0, 0, []), (15, .istore_n 3, 1, 0, 0, []), (16, .aload_n 0, 1, 0, 0, []), (17, .invokevirtual 117, 3, 0, 0, []), (20, .istore 4, 2, 0, 0, []), (22, .iconst 0, 1, 0, 0, []), (23, .istore 5, 2, 0, 0, []), (25, .iload 5, 2, 0, 0, []), (27, .iload 4, 2, 0, 0, []), (29, .if_icmp .ge 40, 3, 69, 0, [])]
def xm_14_1 : List xEn := [(32, .aload_n 0, 1, 0, 0, []), (33, .iload_n 2, 1, 0, 0, []), (34, .invokevirtual 99, 3, 0, 0, []), (37, .aload_n 0, 1, 0, 0, []), (38, .getfield 36, 3, 0, 0, []), (41, .iload 5, 2, 0, 0, []), (43, .aload_n 0, 1, 0, 0, []), (44, .iload_n 3, 1, 0, 0, []), (45, .invokevirtual 121, 3, 0, 0, []), (48, .iastore, 1, 0, 0, []), (49, .aload_n 0, 1, 0, 0, []), (50, .getfield 36, 3, 0, 0, []), (53, .iload 5, 2, 0, 0, []), (55, .iaload, 1, 0, 0, []), (56, .istore_n 3, 1, 0, 0, []), (57, .iload_n 2, 1, 0, 0, []), (58, .iconst 1, 1, 0, 1, []), (59, .iload_n 3, 1, 0, 0, []), (60, .ishl, 1, 0, 0, []), (61, .ior, 1, 0, 0, []), (62, .istore_n 2, 1, 0, 0, []), (63, .iinc 5 1, 3, 0, 1, [])]
def xm_14_2 : List xEn := [(66, .goto (-41), 3, 25, 0, []), (69, .return_, 1, 0, 0, [])]
/-- X1_findFirst -/
def xm_14 : xT := (1, [xm_14_0, xm_14_1, xm_14_2], [(25, [0, 2, 3, 4, 5], [3208, 3600, 3700, 3800, 3900, 4100], []), (69, [], [3208, 3600, 3700, 3800, 3900, 4100], [])], none, false, 6)
def xm_15_0 : List xEn := [(0, .aload_n 0, 1, 0, 0, []), (1, .iload_n 1, 1, 0, 0, []), (2, .invokevirtual 102, 3, 0, 0, []), (5, .istore_n 2, 1, 0, 0, []), (6, .iconst 0, 1, 0, 0, []), (7, .istore_n 3, 1, 0, 0, []), (8, .iload_n 3, 1, 0, 0, []), (9, .aload_n 0, 1, 0, 0, []), (10, .getfield 105, 3, 0, 0, []), (13, .if_icmp .ge 43, 3, 56, 0, []), (16, .aload_n 0, 1, 0, 0, []), (17, .getfield 21, 3, 0, 0, []), (20, .iload_n 1, 1, 0, 0, []), (21, .bipush 9, 2, 0, 9, []), (23, .imul, 1, 0, 0, []), (24, .aload_n 0, 1, 0, 0, []), (25, .getfield 27, 3, 0, 0, []), (28, .iload_n 3, 1, 0, 0, []), (29, .iaload, 1, 0, 0, []), (30, .iadd, 1, 0, 0, []), (31, .iaload, 1, 0, 0, [])]
def xm_15_1 : List xEn := [(32, .aload_n 0, 1, 0, 0, []), (33, .getfield 30, 3, 0, 0, []), (36, .iload_n 3, 1, 0, 0, []), (37, .iaload, 1, 0, 0, []), (38, .iadd, 1, 0, 0, []), (39, .iload_n 2, 1, 0, 0, []), (40, .if_icmp .ne 10, 3, 50, 0, []), (43, .aload_n 0, 1, 0, 0, []), (44, .getfield 27, 3, 0, 0, []), (47, .iload_n 3, 1, 0, 0, []), (48, .iaload, 1, 0, 0, []), (49, .ireturn, 1, 0, 0, []), (50, .iinc 3 1, 3, 0, 1, []), (53, .goto (-45), 3, 8, 0, []), (56, .iconst 0, 1, 0, 0, []), (57, .ireturn, 1, 0, 0, [])]
/-- X1_firstBehind -/
def xm_15 : xT := (1, [xm_15_0, xm_15_1], [(8, [0, 1, 2, 3], [], [])], some .int, false, 4)
def xm_16_0 : List xEn := [(0, .aload_n 0, 1, 0, 0, []), (1, .getfield 59, 3, 0, 0, []), (4, .istore_n 1, 1, 0, 0, []), (5, .iload_n 1, 1, 0, 0, []), (6, .aload_n 0, 1, 0, 0, []), (7, .getfield 49, 3, 0, 0, []), (10, .if_icmp .lt 68, 3, 78, 0, []), (13, .iload_n 1, 1, 0, 0, []), (14, .aload_n 0, 1, 0, 0, []), (15, .getfield 59, 3, 0, 0, []), (18, .if_icmp .ne 7, 3, 25, 0, []), (21, .iconst 1, 1, 0, 1, []), (22, .goto 4, 3, 26, 0, []), (25, .iconst 0, 1, 0, 0, []), (26, .istore_n 2, 1, 0, 0, []), (27, .iconst 0, 1, 0, 0, []), (28, .istore_n 3, 1, 0, 0, []), (29, .iload_n 3, 1, 0, 0, []), (30, .aload_n 0, 1, 0, 0, []), (31, .getfield 45, 3, 0, 0, [])]
def xm_16_1 : List xEn := [(34, .if_icmp .ge 31, 3, 65, 0, []), (37, .aload_n 0, 1, 0, 0, []), (38, .iload_n 3, 1, 0, 0, []), (39, .iload_n 1, 1, 0, 0, []), (40, .invokevirtual 77, 3, 0, 0, []), (43, .ifCond .eq 16, 3, 59, 0, []), (46, .iload_n 2, 1, 0, 0, []), (47, .aload_n 0, 1, 0, 0, []), (48, .getfield 33, 3, 0, 0, []), (51, .iload_n 1, 1, 0, 0, []), (52, .iconst 1, 1, 0, 1, []), (53, .iload_n 3, 1, 0, 0, []), (54, .ishl, 1, 0, 0, []), (55, .ior, 1, 0, 0, []), (56, .iaload, 1, 0, 0, []), (57, .iadd, 1, 0, 0, []), (58, .istore_n 2, 1, 0, 0, []), (59, .iinc 3 1, 3, 0, 1, []), (62, .goto (-33), 3, 29, 0, [])]
def xm_16_2 : List xEn := [(65, .aload_n 0, 1, 0, 0, []), (66, .getfield 33, 3, 0, 0, []), (69, .iload_n 1, 1, 0, 0, []), (70, .iload_n 2, 1, 0, 0, []), (71, .iastore, 1, 0, 0, []), (72, .iinc 1 (-1), 3, 0, (-1), []), (75, .goto (-70), 3, 5, 0, []), (78, .aload_n 0, 1, 0, 0, []), (79, .getfield 33, 3, 0, 0, []), (82, .aload_n 0, 1, 0, 0, []), (83, .getfield 49, 3, 0, 0, []), (86, .iaload, 1, 0, 0, []), (87, .ireturn, 1, 0, 0, [])]
/-- X1_countWays -/
def xm_16 : xT := (1, [xm_16_0, xm_16_1, xm_16_2], [(5, [0, 1], [4000], []), (29, [0, 1, 2, 3], [4000], []), (87, [], [4000], [])], some .int, false, 4)
def xm_17_0 : List xEn := [(0, .iconst 0, 1, 0, 0, []), (1, .istore_n 1, 1, 0, 0, []), (2, .iconst 0, 1, 0, 0, []), (3, .istore_n 2, 1, 0, 0, []), (4, .iload_n 2, 1, 0, 0, []), (5, .aload_n 0, 1, 0, 0, []), (6, .getfield 45, 3, 0, 0, []), (9, .if_icmp .ge 29, 3, 38, 0, []), (12, .aload_n 0, 1, 0, 0, []), (13, .getfield 49, 3, 0, 0, []), (16, .iconst 1, 1, 0, 1, []), (17, .iload_n 2, 1, 0, 0, []), (18, .ishl, 1, 0, 0, []), (19, .iand, 1, 0, 0, []), (20, .ifCond .ne 12, 3, 32, 0, []), (23, .iload_n 1, 1, 0, 0, []), (24, .aload_n 0, 1, 0, 0, []), (25, .getfield 18, 3, 0, 0, []), (28, .iload_n 2, 1, 0, 0, []), (29, .iaload, 1, 0, 0, []), (30, .ior, 1, 0, 0, []), (31, .istore_n 1, 1, 0, 0, [])]
def xm_17_1 : List xEn := [(32, .iinc 2 1, 3, 0, 1, []), (35, .goto (-31), 3, 4, 0, []), (38, .aload_n 0, 1, 0, 0, []), (39, .getfield 59, 3, 0, 0, []), (42, .aload_n 0, 1, 0, 0, []), (43, .getfield 49, 3, 0, 0, []), (46, .iconst (-1), 1, 0, (-1), []), (47, .ixor, 1, 0, 0, []), (48, .iand, 1, 0, 0, []), (49, .iload_n 1, 1, 0, 0, []), (50, .iconst (-1), 1, 0, (-1), []), (51, .ixor, 1, 0, 0, []), (52, .iand, 1, 0, 0, []), (53, .ireturn, 1, 0, 0, [])]
/-- X1_lastOnes -/
def xm_17 : xT := (1, [xm_17_0, xm_17_1], [(4, [0, 1, 2], [], [])], some .int, false, 3)
def xm_18_0 : List xEn := [(0, .aload_n 0, 1, 0, 0, []), (1, .getfield 18, 3, 0, 0, []), (4, .iload_n 1, 1, 0, 0, []), (5, .iaload, 1, 0, 0, []), (6, .iload_n 2, 1, 0, 0, []), (7, .iand, 1, 0, 0, []), (8, .istore_n 3, 1, 0, 0, []), (9, .iconst 0, 1, 0, 0, []), (10, .istore 4, 2, 0, 0, []), (12, .iload 4, 2, 0, 0, []), (14, .aload_n 0, 1, 0, 0, []), (15, .getfield 45, 3, 0, 0, []), (18, .if_icmp .ge 48, 3, 66, 0, []), (21, .iconst 0, 1, 0, 0, []), (22, .istore 5, 2, 0, 0, []), (24, .iload 5, 2, 0, 0, []), (26, .aload_n 0, 1, 0, 0, []), (27, .getfield 45, 3, 0, 0, []), (30, .if_icmp .ge 30, 3, 60, 0, [])]
def xm_18_1 : List xEn := [(33, .iload_n 3, 1, 0, 0, []), (34, .iconst 1, 1, 0, 1, []), (35, .iload 5, 2, 0, 0, []), (37, .ishl, 1, 0, 0, []), (38, .iand, 1, 0, 0, []), (39, .ifCond .eq 15, 3, 54, 0, []), (42, .iload_n 3, 1, 0, 0, []), (43, .aload_n 0, 1, 0, 0, []), (44, .getfield 18, 3, 0, 0, []), (47, .iload 5, 2, 0, 0, []), (49, .iaload, 1, 0, 0, []), (50, .iload_n 2, 1, 0, 0, []), (51, .iand, 1, 0, 0, []), (52, .ior, 1, 0, 0, []), (53, .istore_n 3, 1, 0, 0, []), (54, .iinc 5 1, 3, 0, 1, []), (57, .goto (-33), 3, 24, 0, []), (60, .iinc 4 1, 3, 0, 1, []), (63, .goto (-51), 3, 12, 0, [])]
def xm_18_2 : List xEn := [(66, .iload_n 3, 1, 0, 0, []), (67, .ireturn, 1, 0, 0, [])]
/-- X1_allAhead -/
def xm_18 : xT := (1, [xm_18_0, xm_18_1, xm_18_2], [(12, [0, 2, 3, 4], [], []), (24, [0, 2, 3, 4, 5], [], [])], some .int, false, 6)
def xm_19_0 : List xEn := [(0, .aload_n 0, 1, 0, 0, []), (1, .iload_n 1, 1, 0, 0, []), (2, .aload_n 0, 1, 0, 0, []), (3, .getfield 59, 3, 0, 0, []), (6, .aload_n 0, 1, 0, 0, []), (7, .getfield 49, 3, 0, 0, []), (10, .iconst (-1), 1, 0, (-1), []), (11, .ixor, 1, 0, 0, []), (12, .iand, 1, 0, 0, []), (13, .invokevirtual 124, 3, 0, 0, []), (16, .invokestatic 71, 3, 0, 0, []), (19, .ireturn, 1, 0, 0, [])]
/-- X1_earliest -/
def xm_19 : xT := (1, [xm_19_0], [], some .int, false, 2)
def xm_20_0 : List xEn := [(0, .iconst 0, 1, 0, 0, []), (1, .istore_n 2, 1, 0, 0, []), (2, .iconst 0, 1, 0, 0, []), (3, .istore_n 3, 1, 0, 0, []), (4, .iload_n 3, 1, 0, 0, []), (5, .aload_n 0, 1, 0, 0, []), (6, .getfield 45, 3, 0, 0, []), (9, .if_icmp .ge 58, 3, 67, 0, []), (12, .aload_n 0, 1, 0, 0, []), (13, .getfield 49, 3, 0, 0, []), (16, .iconst 1, 1, 0, 1, []), (17, .iload_n 3, 1, 0, 0, []), (18, .ishl, 1, 0, 0, []), (19, .iand, 1, 0, 0, []), (20, .ifCond .ne 7, 3, 27, 0, []), (23, .iconst 1, 1, 0, 1, []), (24, .goto 4, 3, 28, 0, []), (27, .iconst 0, 1, 0, 0, []), (28, .istore 4, 2, 0, 0, []), (30, .iload 4, 2, 0, 0, [])]
def xm_20_1 : List xEn := [(32, .ifCond .eq 29, 3, 61, 0, []), (35, .aload_n 0, 1, 0, 0, []), (36, .iload_n 3, 1, 0, 0, []), (37, .aload_n 0, 1, 0, 0, []), (38, .getfield 59, 3, 0, 0, []), (41, .aload_n 0, 1, 0, 0, []), (42, .getfield 49, 3, 0, 0, []), (45, .iconst (-1), 1, 0, (-1), []), (46, .ixor, 1, 0, 0, []), (47, .iand, 1, 0, 0, []), (48, .invokevirtual 124, 3, 0, 0, []), (51, .iconst 1, 1, 0, 1, []), (52, .iload_n 1, 1, 0, 0, []), (53, .ishl, 1, 0, 0, []), (54, .iand, 1, 0, 0, []), (55, .ifCond .eq 6, 3, 61, 0, []), (58, .iinc 2 1, 3, 0, 1, []), (61, .iinc 3 1, 3, 0, 1, [])]
def xm_20_2 : List xEn := [(64, .goto (-60), 3, 4, 0, []), (67, .aload_n 0, 1, 0, 0, []), (68, .invokevirtual 117, 3, 0, 0, []), (71, .iconst 1, 1, 0, 1, []), (72, .isub, 1, 0, 0, []), (73, .iload_n 2, 1, 0, 0, []), (74, .isub, 1, 0, 0, []), (75, .ireturn, 1, 0, 0, [])]
/-- X1_latest -/
def xm_20 : xT := (1, [xm_20_0, xm_20_1, xm_20_2], [(4, [0, 1, 2, 3], [], []), (28, [0, 1, 2, 3], [], [])], some .int, false, 5)
def xm_21_0 : List xEn := [(0, .aload_n 0, 1, 0, 0, []), (1, .getfield 33, 3, 0, 0, []), (4, .iconst 0, 1, 0, 0, []), (5, .iconst 0, 1, 0, 0, []), (6, .iastore, 1, 0, 0, []), (7, .iconst 1, 1, 0, 1, []), (8, .istore_n 1, 1, 0, 0, []), (9, .iload_n 1, 1, 0, 0, []), (10, .aload_n 0, 1, 0, 0, []), (11, .getfield 59, 3, 0, 0, []), (14, .if_icmp .gt 78, 3, 92, 0, []), (17, .ldc 127, 2, 0, 0, []), (19, .istore_n 2, 1, 0, 0, []), (20, .iconst 0, 1, 0, 0, []), (21, .istore_n 3, 1, 0, 0, []), (22, .iload_n 3, 1, 0, 0, []), (23, .aload_n 0, 1, 0, 0, []), (24, .getfield 45, 3, 0, 0, []), (27, .if_icmp .ge 52, 3, 79, 0, []), (30, .iload_n 1, 1, 0, 0, []), (31, .iconst 1, 1, 0, 1, [])]
def xm_21_1 : List xEn := [(32, .iload_n 3, 1, 0, 0, []), (33, .ishl, 1, 0, 0, []), (34, .iand, 1, 0, 0, []), (35, .ifCond .eq 38, 3, 73, 0, []), (38, .aload_n 0, 1, 0, 0, []), (39, .getfield 18, 3, 0, 0, []), (42, .iload_n 3, 1, 0, 0, []), (43, .iaload, 1, 0, 0, []), (44, .iload_n 1, 1, 0, 0, []), (45, .iconst (-1), 1, 0, (-1), []), (46, .ixor, 1, 0, 0, []), (47, .iand, 1, 0, 0, []), (48, .invokestatic 71, 3, 0, 0, []), (51, .istore 4, 2, 0, 0, []), (53, .iload_n 2, 1, 0, 0, []), (54, .aload_n 0, 1, 0, 0, []), (55, .getfield 33, 3, 0, 0, []), (58, .iload_n 1, 1, 0, 0, []), (59, .iconst 1, 1, 0, 1, []), (60, .iload_n 3, 1, 0, 0, []), (61, .ishl, 1, 0, 0, []), (62, .iconst (-1), 1, 0, (-1), []), (63, .ixor, 1, 0, 0, [])]
def xm_21_2 : List xEn := [(64, .iand, 1, 0, 0, []), (65, .iaload, 1, 0, 0, []), (66, .iload 4, 2, 0, 0, []), (68, .iadd, 1, 0, 0, []), (69, .invokestatic 128, 3, 0, 0, []), (72, .istore_n 2, 1, 0, 0, []), (73, .iinc 3 1, 3, 0, 1, []), (76, .goto (-54), 3, 22, 0, []), (79, .aload_n 0, 1, 0, 0, []), (80, .getfield 33, 3, 0, 0, []), (83, .iload_n 1, 1, 0, 0, []), (84, .iload_n 2, 1, 0, 0, []), (85, .iastore, 1, 0, 0, []), (86, .iinc 1 1, 3, 0, 1, []), (89, .goto (-80), 3, 9, 0, []), (92, .aload_n 0, 1, 0, 0, []), (93, .getfield 33, 3, 0, 0, [])]
def xm_21_3 : List xEn := [(96, .aload_n 0, 1, 0, 0, []), (97, .getfield 59, 3, 0, 0, []), (100, .iaload, 1, 0, 0, []), (101, .ireturn, 1, 0, 0, [])]
/-- X1_fewestBroken -/
def xm_21 : xT := (1, [xm_21_0, xm_21_1, xm_21_2, xm_21_3], [(9, [0, 1], [4000], []), (22, [0, 1, 2, 3], [4000], [])], some .int, false, 5)
def xm_22_0 : List xEn := [(0, .ldc 108, 2, 0, 0, []), (2, .istore_n 2, 1, 0, 0, []), (3, .iconst 0, 1, 0, 0, []), (4, .istore_n 3, 1, 0, 0, []), (5, .iconst 0, 1, 0, 0, []), (6, .istore 4, 2, 0, 0, []), (8, .iload 4, 2, 0, 0, []), (10, .bipush 7, 2, 0, 7, []), (12, .if_icmp .ge 36, 3, 48, 0, []), (15, .aload_n 0, 1, 0, 0, []), (16, .getfield 9, 3, 0, 0, []), (19, .iload_n 1, 1, 0, 0, []), (20, .iload 4, 2, 0, 0, []), (22, .iastore, 1, 0, 0, []), (23, .aload_n 0, 1, 0, 0, []), (24, .iconst 0, 1, 0, 0, []), (25, .invokevirtual 114, 3, 0, 0, []), (28, .istore 5, 2, 0, 0, []), (30, .iload 5, 2, 0, 0, [])]
def xm_22_1 : List xEn := [(32, .iload_n 2, 1, 0, 0, []), (33, .if_icmp .le 9, 3, 42, 0, []), (36, .iload 5, 2, 0, 0, []), (38, .istore_n 2, 1, 0, 0, []), (39, .iload 4, 2, 0, 0, []), (41, .istore_n 3, 1, 0, 0, []), (42, .iinc 4 1, 3, 0, 1, []), (45, .goto (-37), 3, 8, 0, []), (48, .iload_n 3, 1, 0, 0, []), (49, .ireturn, 1, 0, 0, [])]
/-- X1_bestKind -/
def xm_22 : xT := (1, [xm_22_0, xm_22_1], [(8, [0, 1, 2, 3, 4], [3208, 3300, 3600, 3700, 3800, 3900], []), (49, [], [3208, 3300, 3600, 3700, 3800, 3900], [])], some .int, false, 6)
def xm_23_0 : List xEn := [(0, .iconst 0, 1, 0, 0, []), (1, .istore_n 1, 1, 0, 0, []), (2, .iconst 0, 1, 0, 0, []), (3, .istore_n 2, 1, 0, 0, []), (4, .iload_n 2, 1, 0, 0, []), (5, .aload_n 0, 1, 0, 0, []), (6, .getfield 45, 3, 0, 0, []), (9, .if_icmp .ge 111, 3, 120, 0, []), (12, .iconst 0, 1, 0, 0, []), (13, .istore_n 3, 1, 0, 0, []), (14, .iload_n 3, 1, 0, 0, []), (15, .aload_n 0, 1, 0, 0, []), (16, .getfield 45, 3, 0, 0, []), (19, .if_icmp .ge 95, 3, 114, 0, []), (22, .aload_n 0, 1, 0, 0, []), (23, .getfield 18, 3, 0, 0, []), (26, .iload_n 3, 1, 0, 0, []), (27, .iaload, 1, 0, 0, []), (28, .istore 4, 2, 0, 0, []), (30, .aload_n 0, 1, 0, 0, []), (31, .getfield 18, 3, 0, 0, [])]
def xm_23_1 : List xEn := [(34, .iload_n 3, 1, 0, 0, []), (35, .iload 4, 2, 0, 0, []), (37, .iconst 1, 1, 0, 1, []), (38, .iload_n 2, 1, 0, 0, []), (39, .ishl, 1, 0, 0, []), (40, .iconst (-1), 1, 0, (-1), []), (41, .ixor, 1, 0, 0, []), (42, .iand, 1, 0, 0, []), (43, .iastore, 1, 0, 0, []), (44, .iload 4, 2, 0, 0, []), (46, .aload_n 0, 1, 0, 0, []), (47, .getfield 18, 3, 0, 0, []), (50, .iload_n 3, 1, 0, 0, []), (51, .iaload, 1, 0, 0, []), (52, .if_icmp .eq 48, 3, 100, 0, []), (55, .aload_n 0, 1, 0, 0, []), (56, .invokevirtual 131, 3, 0, 0, []), (59, .ifCond .eq 41, 3, 100, 0, []), (62, .aload_n 0, 1, 0, 0, []), (63, .iconst 0, 1, 0, 0, [])]
def xm_23_2 : List xEn := [(64, .invokevirtual 114, 3, 0, 0, []), (67, .istore 5, 2, 0, 0, []), (69, .iload_n 1, 1, 0, 0, []), (70, .ifCond .eq 12, 3, 82, 0, []), (73, .iload 5, 2, 0, 0, []), (75, .aload_n 0, 1, 0, 0, []), (76, .getfield 135, 3, 0, 0, []), (79, .if_icmp .le 21, 3, 100, 0, []), (82, .iconst 1, 1, 0, 1, []), (83, .istore_n 1, 1, 0, 0, []), (84, .aload_n 0, 1, 0, 0, []), (85, .bipush 10, 2, 0, 10, []), (87, .iload_n 2, 1, 0, 0, []), (88, .imul, 1, 0, 0, []), (89, .iload_n 3, 1, 0, 0, []), (90, .iadd, 1, 0, 0, []), (91, .putfield 138, 3, 0, 0, []), (94, .aload_n 0, 1, 0, 0, []), (95, .iload 5, 2, 0, 0, [])]
def xm_23_3 : List xEn := [(97, .putfield 135, 3, 0, 0, []), (100, .aload_n 0, 1, 0, 0, []), (101, .getfield 18, 3, 0, 0, []), (104, .iload_n 3, 1, 0, 0, []), (105, .iload 4, 2, 0, 0, []), (107, .iastore, 1, 0, 0, []), (108, .iinc 3 1, 3, 0, 1, []), (111, .goto (-97), 3, 14, 0, []), (114, .iinc 2 1, 3, 0, 1, []), (117, .goto (-113), 3, 4, 0, []), (120, .iload_n 1, 1, 0, 0, []), (121, .ireturn, 1, 0, 0, [])]
/-- X1_freeOne -/
def xm_23 : xT := (1, [xm_23_0, xm_23_1, xm_23_2, xm_23_3], [(4, [0, 1, 2], [3208, 3215, 3216, 3500, 3600, 3700, 3800, 3900], []), (14, [0, 1, 2, 3], [3208, 3215, 3216, 3500, 3600, 3700, 3800, 3900], []), (82, [0, 2, 3, 4, 5], [3208, 3215, 3216, 3500, 3600, 3700, 3800, 3900], []), (121, [], [3208, 3215, 3216, 3500, 3600, 3700, 3800, 3900], [])], some .boolean, false, 6)
def xm_24_0 : List xEn := [(0, .aload_n 0, 1, 0, 0, []), (1, .aload_n 1, 1, 0, 0, []), (2, .getfield 43, 3, 0, 0, []), (5, .putfield 43, 3, 0, 0, []), (8, .aload_n 0, 1, 0, 0, []), (9, .aload_n 1, 1, 0, 0, []), (10, .getfield 46, 3, 0, 0, []), (13, .putfield 46, 3, 0, 0, []), (16, .aload_n 0, 1, 0, 0, []), (17, .aload_n 1, 1, 0, 0, []), (18, .getfield 49, 3, 0, 0, []), (21, .putfield 49, 3, 0, 0, []), (24, .aload_n 0, 1, 0, 0, []), (25, .aload_n 1, 1, 0, 0, []), (26, .getfield 52, 3, 0, 0, []), (29, .putfield 52, 3, 0, 0, [])]
def xm_24_1 : List xEn := [(32, .aload_n 0, 1, 0, 0, []), (33, .aload_n 1, 1, 0, 0, []), (34, .getfield 55, 3, 0, 0, []), (37, .putfield 55, 3, 0, 0, []), (40, .aload_n 0, 1, 0, 0, []), (41, .aload_n 1, 1, 0, 0, []), (42, .getfield 36, 3, 0, 0, []), (45, .putfield 36, 3, 0, 0, []), (48, .aload_n 1, 1, 0, 0, []), (49, .getfield 9, 3, 0, 0, []), (52, .iconst 0, 1, 0, 0, []), (53, .aload_n 0, 1, 0, 0, []), (54, .getfield 9, 3, 0, 0, []), (57, .iconst 0, 1, 0, 0, []), (58, .bipush 9, 2, 0, 9, []), (60, .invokestatic 58, 3, 0, 0, []), (63, .aload_n 1, 1, 0, 0, [])]
def xm_24_2 : List xEn := [(64, .getfield 15, 3, 0, 0, []), (67, .iconst 0, 1, 0, 0, []), (68, .aload_n 0, 1, 0, 0, []), (69, .getfield 15, 3, 0, 0, []), (72, .iconst 0, 1, 0, 0, []), (73, .bipush 9, 2, 0, 9, []), (75, .invokestatic 58, 3, 0, 0, []), (78, .aload_n 1, 1, 0, 0, []), (79, .getfield 18, 3, 0, 0, []), (82, .iconst 0, 1, 0, 0, []), (83, .aload_n 0, 1, 0, 0, []), (84, .getfield 18, 3, 0, 0, []), (87, .iconst 0, 1, 0, 0, []), (88, .bipush 9, 2, 0, 9, []), (90, .invokestatic 58, 3, 0, 0, []), (93, .aload_n 1, 1, 0, 0, []), (94, .getfield 21, 3, 0, 0, [])]
def xm_24_3 : List xEn := [(97, .iconst 0, 1, 0, 0, []), (98, .aload_n 0, 1, 0, 0, []), (99, .getfield 21, 3, 0, 0, []), (102, .iconst 0, 1, 0, 0, []), (103, .bipush 9, 2, 0, 9, []), (105, .invokestatic 58, 3, 0, 0, []), (108, .aload_n 1, 1, 0, 0, []), (109, .getfield 24, 3, 0, 0, []), (112, .iconst 0, 1, 0, 0, []), (113, .aload_n 0, 1, 0, 0, []), (114, .getfield 24, 3, 0, 0, []), (117, .iconst 0, 1, 0, 0, []), (118, .iconst 5, 1, 0, 5, []), (119, .invokestatic 58, 3, 0, 0, []), (122, .aload_n 1, 1, 0, 0, []), (123, .getfield 27, 3, 0, 0, []), (126, .iconst 0, 1, 0, 0, []), (127, .aload_n 0, 1, 0, 0, [])]
def xm_24_4 : List xEn := [(128, .getfield 27, 3, 0, 0, []), (131, .iconst 0, 1, 0, 0, []), (132, .bipush 9, 2, 0, 9, []), (134, .invokestatic 58, 3, 0, 0, []), (137, .aload_n 1, 1, 0, 0, []), (138, .getfield 30, 3, 0, 0, []), (141, .iconst 0, 1, 0, 0, []), (142, .aload_n 0, 1, 0, 0, []), (143, .getfield 30, 3, 0, 0, []), (146, .iconst 0, 1, 0, 0, []), (147, .bipush 9, 2, 0, 9, []), (149, .invokestatic 58, 3, 0, 0, []), (152, .aload_n 1, 1, 0, 0, []), (153, .getfield 33, 3, 0, 0, []), (156, .iconst 0, 1, 0, 0, []), (157, .aload_n 0, 1, 0, 0, []), (158, .getfield 33, 3, 0, 0, [])]
def xm_24_5 : List xEn := [(161, .iconst 0, 1, 0, 0, []), (162, .bipush 9, 2, 0, 9, []), (164, .invokestatic 58, 3, 0, 0, []), (167, .aload_n 1, 1, 0, 0, []), (168, .getfield 40, 3, 0, 0, []), (171, .iconst 0, 1, 0, 0, []), (172, .aload_n 0, 1, 0, 0, []), (173, .getfield 40, 3, 0, 0, []), (176, .iconst 0, 1, 0, 0, []), (177, .bipush 10, 2, 0, 10, []), (179, .invokestatic 58, 3, 0, 0, []), (182, .return_, 1, 0, 0, [])]
/-- X2_become -/
def xm_24 : xT := (2, [xm_24_0, xm_24_1, xm_24_2, xm_24_3, xm_24_4, xm_24_5], [], none, false, 2)
def xm_25_0 : List xEn := [(0, .iload_n 1, 1, 0, 0, []), (1, .ifCond .lt 15, 3, 16, 0, []), (4, .iload_n 1, 1, 0, 0, []), (5, .aload_n 0, 1, 0, 0, []), (6, .getfield 43, 3, 0, 0, []), (9, .if_icmp .ge 7, 3, 16, 0, []), (12, .iconst 1, 1, 0, 1, []), (13, .goto 4, 3, 17, 0, []), (16, .iconst 0, 1, 0, 0, []), (17, .ireturn, 1, 0, 0, [])]
/-- X2_isBow -/
def xm_25 : xT := (2, [xm_25_0], [], some .boolean, false, 2)
def xm_26_0 : List xEn := [(0, .iload_n 1, 1, 0, 0, []), (1, .iconst 0, 1, 0, 0, []), (2, .iconst 1, 1, 0, 1, []), (3, .aload_n 0, 1, 0, 0, []), (4, .getfield 43, 3, 0, 0, []), (7, .ishl, 1, 0, 0, []), (8, .iconst 1, 1, 0, 1, []), (9, .isub, 1, 0, 0, []), (10, .invokestatic 64, 3, 0, 0, []), (13, .ifCond .eq 15, 3, 28, 0, []), (16, .iload_n 1, 1, 0, 0, []), (17, .iconst 1, 1, 0, 1, []), (18, .iload_n 2, 1, 0, 0, []), (19, .ishl, 1, 0, 0, []), (20, .iand, 1, 0, 0, []), (21, .ifCond .ne 7, 3, 28, 0, []), (24, .iconst 1, 1, 0, 1, []), (25, .goto 4, 3, 29, 0, []), (28, .iconst 0, 1, 0, 0, []), (29, .ireturn, 1, 0, 0, [])]
/-- X2_isSetWithout -/
def xm_26 : xT := (2, [xm_26_0], [], some .boolean, false, 3)
def xm_27_0 : List xEn := [(0, .aload_n 0, 1, 0, 0, []), (1, .getfield 43, 3, 0, 0, []), (4, .istore_n 2, 1, 0, 0, []), (5, .aload_n 0, 1, 0, 0, []), (6, .getfield 9, 3, 0, 0, []), (9, .iload_n 2, 1, 0, 0, []), (10, .iload_n 1, 1, 0, 0, []), (11, .iastore, 1, 0, 0, []), (12, .aload_n 0, 1, 0, 0, []), (13, .getfield 15, 3, 0, 0, []), (16, .iload_n 2, 1, 0, 0, []), (17, .bipush 10, 2, 0, 10, []), (19, .iastore, 1, 0, 0, []), (20, .aload_n 0, 1, 0, 0, []), (21, .getfield 18, 3, 0, 0, []), (24, .iload_n 2, 1, 0, 0, []), (25, .iconst 5, 1, 0, 5, []), (26, .iastore, 1, 0, 0, []), (27, .aload_n 0, 1, 0, 0, []), (28, .getfield 21, 3, 0, 0, []), (31, .iload_n 2, 1, 0, 0, [])]
def xm_27_1 : List xEn := [(32, .iconst 0, 1, 0, 0, []), (33, .iastore, 1, 0, 0, []), (34, .aload_n 0, 1, 0, 0, []), (35, .dup, 1, 0, 0, []), (36, .getfield 43, 3, 0, 0, []), (39, .iconst 1, 1, 0, 1, []), (40, .iadd, 1, 0, 0, []), (41, .putfield 43, 3, 0, 0, []), (44, .iload_n 2, 1, 0, 0, []), (45, .ireturn, 1, 0, 0, [])]
/-- X2_addBow -/
def xm_27 : xT := (2, [xm_27_0, xm_27_1], [], some .int, false, 3)
def xm_28_0 : List xEn := [(0, .aload_n 0, 1, 0, 0, []), (1, .getfield 9, 3, 0, 0, []), (4, .iload_n 1, 1, 0, 0, []), (5, .iaload, 1, 0, 0, []), (6, .aload_n 0, 1, 0, 0, []), (7, .getfield 15, 3, 0, 0, []), (10, .iload_n 1, 1, 0, 0, []), (11, .iaload, 1, 0, 0, []), (12, .iload_n 2, 1, 0, 0, []), (13, .invokestatic 68, 3, 0, 0, []), (16, .ireturn, 1, 0, 0, [])]
/-- X2_noiseBy -/
def xm_28 : xT := (2, [xm_28_0], [], some .int, false, 3)
def xm_29_0 : List xEn := [(0, .aload_n 0, 1, 0, 0, []), (1, .getfield 9, 3, 0, 0, []), (4, .iload_n 1, 1, 0, 0, []), (5, .iaload, 1, 0, 0, []), (6, .aload_n 0, 1, 0, 0, []), (7, .getfield 15, 3, 0, 0, []), (10, .iload_n 1, 1, 0, 0, []), (11, .iaload, 1, 0, 0, []), (12, .invokestatic 74, 3, 0, 0, []), (15, .ireturn, 1, 0, 0, [])]
/-- X2_leftBy -/
def xm_29 : xT := (2, [xm_29_0], [], some .int, false, 2)
def xm_30_0 : List xEn := [(0, .aload_n 0, 1, 0, 0, []), (1, .getfield 46, 3, 0, 0, []), (4, .ifCond .ne 7, 3, 11, 0, []), (7, .iconst 0, 1, 0, 0, []), (8, .goto 18, 3, 26, 0, []), (11, .aload_n 0, 1, 0, 0, []), (12, .aload_n 0, 1, 0, 0, []), (13, .getfield 27, 3, 0, 0, []), (16, .aload_n 0, 1, 0, 0, []), (17, .getfield 46, 3, 0, 0, []), (20, .iconst 1, 1, 0, 1, []), (21, .isub, 1, 0, 0, []), (22, .iaload, 1, 0, 0, []), (23, .invokevirtual 78, 3, 0, 0, []), (26, .ireturn, 1, 0, 0, [])]
/-- X2_leftByLatest -/
def xm_30 : xT := (2, [xm_30_0], [], some .int, false, 1)
def xm_31_0 : List xEn := [(0, .aload_n 0, 1, 0, 0, []), (1, .getfield 9, 3, 0, 0, []), (4, .iload_n 1, 1, 0, 0, []), (5, .iaload, 1, 0, 0, []), (6, .aload_n 0, 1, 0, 0, []), (7, .getfield 18, 3, 0, 0, []), (10, .iload_n 1, 1, 0, 0, []), (11, .iaload, 1, 0, 0, []), (12, .invokestatic 81, 3, 0, 0, []), (15, .ireturn, 1, 0, 0, [])]
/-- X2_lastedBy -/
def xm_31 : xT := (2, [xm_31_0], [], some .int, false, 2)
def xm_32_0 : List xEn := [(0, .aload_n 0, 1, 0, 0, []), (1, .getfield 49, 3, 0, 0, []), (4, .iconst 1, 1, 0, 1, []), (5, .iload_n 1, 1, 0, 0, []), (6, .ishl, 1, 0, 0, []), (7, .iand, 1, 0, 0, []), (8, .ifCond .eq 7, 3, 15, 0, []), (11, .iconst 1, 1, 0, 1, []), (12, .goto 4, 3, 16, 0, []), (15, .iconst 0, 1, 0, 0, []), (16, .ireturn, 1, 0, 0, [])]
/-- X2_hasCome -/
def xm_32 : xT := (2, [xm_32_0], [], some .boolean, false, 2)
def xm_33_0 : List xEn := [(0, .iload_n 2, 1, 0, 0, []), (1, .iconst 1, 1, 0, 1, []), (2, .iload_n 1, 1, 0, 0, []), (3, .ishl, 1, 0, 0, []), (4, .iand, 1, 0, 0, []), (5, .ifCond .ne 20, 3, 25, 0, []), (8, .aload_n 0, 1, 0, 0, []), (9, .getfield 21, 3, 0, 0, []), (12, .iload_n 1, 1, 0, 0, []), (13, .iaload, 1, 0, 0, []), (14, .iload_n 2, 1, 0, 0, []), (15, .iconst (-1), 1, 0, (-1), []), (16, .ixor, 1, 0, 0, []), (17, .iand, 1, 0, 0, []), (18, .ifCond .ne 7, 3, 25, 0, []), (21, .iconst 1, 1, 0, 1, []), (22, .goto 4, 3, 26, 0, []), (25, .iconst 0, 1, 0, 0, []), (26, .ireturn, 1, 0, 0, [])]
/-- X2_couldCome -/
def xm_33 : xT := (2, [xm_33_0], [], some .boolean, false, 3)
def xm_34_0 : List xEn := [(0, .iconst 0, 1, 0, 0, []), (1, .istore_n 1, 1, 0, 0, []), (2, .iconst 0, 1, 0, 0, []), (3, .istore_n 2, 1, 0, 0, []), (4, .iload_n 2, 1, 0, 0, []), (5, .aload_n 0, 1, 0, 0, []), (6, .getfield 43, 3, 0, 0, []), (9, .if_icmp .ge 27, 3, 36, 0, []), (12, .aload_n 0, 1, 0, 0, []), (13, .iload_n 2, 1, 0, 0, []), (14, .aload_n 0, 1, 0, 0, []), (15, .getfield 49, 3, 0, 0, []), (18, .invokevirtual 84, 3, 0, 0, []), (21, .ifCond .eq 9, 3, 30, 0, []), (24, .iload_n 1, 1, 0, 0, []), (25, .iconst 1, 1, 0, 1, []), (26, .iload_n 2, 1, 0, 0, []), (27, .ishl, 1, 0, 0, []), (28, .ior, 1, 0, 0, []), (29, .istore_n 1, 1, 0, 0, []), (30, .iinc 2 1, 3, 0, 1, [])]
def xm_34_1 : List xEn := [(33, .goto (-29), 3, 4, 0, []), (36, .iload_n 1, 1, 0, 0, []), (37, .ireturn, 1, 0, 0, [])]
/-- X2_comers -/
def xm_34 : xT := (2, [xm_34_0, xm_34_1], [(4, [0, 1, 2], [], [])], some .int, false, 3)
def xm_35_0 : List xEn := [(0, .aload_n 0, 1, 0, 0, []), (1, .iload_n 1, 1, 0, 0, []), (2, .aload_n 0, 1, 0, 0, []), (3, .invokevirtual 88, 3, 0, 0, []), (6, .invokevirtual 92, 3, 0, 0, []), (9, .istore_n 2, 1, 0, 0, []), (10, .aload_n 0, 1, 0, 0, []), (11, .iload_n 1, 1, 0, 0, []), (12, .invokevirtual 95, 3, 0, 0, []), (15, .istore_n 3, 1, 0, 0, []), (16, .aload_n 0, 1, 0, 0, []), (17, .getfield 27, 3, 0, 0, []), (20, .aload_n 0, 1, 0, 0, []), (21, .getfield 46, 3, 0, 0, []), (24, .iload_n 1, 1, 0, 0, []), (25, .iastore, 1, 0, 0, []), (26, .aload_n 0, 1, 0, 0, []), (27, .getfield 30, 3, 0, 0, []), (30, .aload_n 0, 1, 0, 0, []), (31, .getfield 46, 3, 0, 0, [])]
def xm_35_1 : List xEn := [(34, .iload_n 2, 1, 0, 0, []), (35, .iastore, 1, 0, 0, []), (36, .aload_n 0, 1, 0, 0, []), (37, .getfield 33, 3, 0, 0, []), (40, .aload_n 0, 1, 0, 0, []), (41, .getfield 46, 3, 0, 0, []), (44, .iload_n 3, 1, 0, 0, []), (45, .iastore, 1, 0, 0, []), (46, .aload_n 0, 1, 0, 0, []), (47, .dup, 1, 0, 0, []), (48, .getfield 46, 3, 0, 0, []), (51, .iconst 1, 1, 0, 1, []), (52, .iadd, 1, 0, 0, []), (53, .putfield 46, 3, 0, 0, []), (56, .aload_n 0, 1, 0, 0, []), (57, .dup, 1, 0, 0, []), (58, .getfield 49, 3, 0, 0, []), (61, .iconst 1, 1, 0, 1, []), (62, .iload_n 1, 1, 0, 0, []), (63, .ishl, 1, 0, 0, [])]
def xm_35_2 : List xEn := [(64, .ior, 1, 0, 0, []), (65, .putfield 49, 3, 0, 0, []), (68, .aload_n 0, 1, 0, 0, []), (69, .dup, 1, 0, 0, []), (70, .getfield 52, 3, 0, 0, []), (73, .iload_n 2, 1, 0, 0, []), (74, .iadd, 1, 0, 0, []), (75, .putfield 52, 3, 0, 0, []), (78, .aload_n 0, 1, 0, 0, []), (79, .dup, 1, 0, 0, []), (80, .getfield 55, 3, 0, 0, []), (83, .iload_n 3, 1, 0, 0, []), (84, .iadd, 1, 0, 0, []), (85, .putfield 55, 3, 0, 0, []), (88, .iload_n 2, 1, 0, 0, []), (89, .ireturn, 1, 0, 0, [])]
/-- X2_enter -/
def xm_35 : xT := (2, [xm_35_0, xm_35_1, xm_35_2], [], some .int, false, 4)
def xm_36_0 : List xEn := [(0, .aload_n 0, 1, 0, 0, []), (1, .dup, 1, 0, 0, []), (2, .getfield 46, 3, 0, 0, []), (5, .iconst 1, 1, 0, 1, []), (6, .isub, 1, 0, 0, []), (7, .putfield 46, 3, 0, 0, []), (10, .aload_n 0, 1, 0, 0, []), (11, .getfield 27, 3, 0, 0, []), (14, .aload_n 0, 1, 0, 0, []), (15, .getfield 46, 3, 0, 0, []), (18, .iaload, 1, 0, 0, []), (19, .istore_n 1, 1, 0, 0, []), (20, .aload_n 0, 1, 0, 0, []), (21, .dup, 1, 0, 0, []), (22, .getfield 49, 3, 0, 0, []), (25, .iconst 1, 1, 0, 1, []), (26, .iload_n 1, 1, 0, 0, []), (27, .ishl, 1, 0, 0, []), (28, .iconst (-1), 1, 0, (-1), []), (29, .ixor, 1, 0, 0, []), (30, .iand, 1, 0, 0, []), (31, .putfield 49, 3, 0, 0, [])]
def xm_36_1 : List xEn := [(34, .aload_n 0, 1, 0, 0, []), (35, .dup, 1, 0, 0, []), (36, .getfield 52, 3, 0, 0, []), (39, .aload_n 0, 1, 0, 0, []), (40, .getfield 30, 3, 0, 0, []), (43, .aload_n 0, 1, 0, 0, []), (44, .getfield 46, 3, 0, 0, []), (47, .iaload, 1, 0, 0, []), (48, .isub, 1, 0, 0, []), (49, .putfield 52, 3, 0, 0, []), (52, .aload_n 0, 1, 0, 0, []), (53, .dup, 1, 0, 0, []), (54, .getfield 55, 3, 0, 0, []), (57, .aload_n 0, 1, 0, 0, []), (58, .getfield 33, 3, 0, 0, []), (61, .aload_n 0, 1, 0, 0, []), (62, .getfield 46, 3, 0, 0, [])]
def xm_36_2 : List xEn := [(65, .iaload, 1, 0, 0, []), (66, .isub, 1, 0, 0, []), (67, .putfield 55, 3, 0, 0, []), (70, .iload_n 1, 1, 0, 0, []), (71, .ireturn, 1, 0, 0, [])]
/-- X2_leave -/
def xm_36 : xT := (2, [xm_36_0, xm_36_1, xm_36_2], [], some .int, false, 2)
def xm_37_0 : List xEn := [(0, .aload_n 0, 1, 0, 0, []), (1, .iconst 0, 1, 0, 0, []), (2, .putfield 46, 3, 0, 0, []), (5, .aload_n 0, 1, 0, 0, []), (6, .iconst 0, 1, 0, 0, []), (7, .putfield 49, 3, 0, 0, []), (10, .aload_n 0, 1, 0, 0, []), (11, .iconst 0, 1, 0, 0, []), (12, .putfield 52, 3, 0, 0, []), (15, .aload_n 0, 1, 0, 0, []), (16, .iconst 0, 1, 0, 0, []), (17, .putfield 55, 3, 0, 0, []), (20, .return_, 1, 0, 0, [])]
/-- X2_empty -/
def xm_37 : xT := (2, [xm_37_0], [], none, false, 1)
def xm_38_0 : List xEn := [(0, .iconst 0, 1, 0, 0, []), (1, .istore_n 1, 1, 0, 0, []), (2, .iconst 0, 1, 0, 0, []), (3, .istore_n 2, 1, 0, 0, []), (4, .iconst 0, 1, 0, 0, []), (5, .istore_n 3, 1, 0, 0, []), (6, .iload_n 3, 1, 0, 0, []), (7, .aload_n 0, 1, 0, 0, []), (8, .getfield 46, 3, 0, 0, []), (11, .if_icmp .ge 38, 3, 49, 0, []), (14, .iload_n 2, 1, 0, 0, []), (15, .aload_n 0, 1, 0, 0, []), (16, .getfield 15, 3, 0, 0, []), (19, .aload_n 0, 1, 0, 0, []), (20, .getfield 27, 3, 0, 0, []), (23, .iload_n 3, 1, 0, 0, []), (24, .iaload, 1, 0, 0, []), (25, .iaload, 1, 0, 0, []), (26, .if_icmp .le 6, 3, 32, 0, []), (29, .iinc 1 1, 3, 0, 1, [])]
def xm_38_1 : List xEn := [(32, .aload_n 0, 1, 0, 0, []), (33, .aload_n 0, 1, 0, 0, []), (34, .getfield 27, 3, 0, 0, []), (37, .iload_n 3, 1, 0, 0, []), (38, .iaload, 1, 0, 0, []), (39, .invokevirtual 78, 3, 0, 0, []), (42, .istore_n 2, 1, 0, 0, []), (43, .iinc 3 1, 3, 0, 1, []), (46, .goto (-40), 3, 6, 0, []), (49, .iload_n 1, 1, 0, 0, []), (50, .ireturn, 1, 0, 0, [])]
/-- X2_falls -/
def xm_38 : xT := (2, [xm_38_0, xm_38_1], [(6, [0, 1, 2, 3], [], [])], some .int, false, 4)
def xm_39_0 : List xEn := [(0, .aload_n 0, 1, 0, 0, []), (1, .aload_n 0, 1, 0, 0, []), (2, .getfield 36, 3, 0, 0, []), (5, .ldc 97, 2, 0, 0, []), (7, .imul, 1, 0, 0, []), (8, .sipush 12345, 3, 0, 12345, []), (11, .iadd, 1, 0, 0, []), (12, .putfield 36, 3, 0, 0, []), (15, .aload_n 0, 1, 0, 0, []), (16, .getfield 36, 3, 0, 0, []), (19, .bipush 8, 2, 0, 8, []), (21, .iushr, 1, 0, 0, []), (22, .ireturn, 1, 0, 0, [])]
/-- X2_draw -/
def xm_39 : xT := (2, [xm_39_0], [], some .int, false, 1)
def xm_40_0 : List xEn := [(0, .iconst 0, 1, 0, 0, []), (1, .istore_n 1, 1, 0, 0, []), (2, .iconst 0, 1, 0, 0, []), (3, .istore_n 2, 1, 0, 0, []), (4, .iload_n 2, 1, 0, 0, []), (5, .aload_n 0, 1, 0, 0, []), (6, .getfield 43, 3, 0, 0, []), (9, .if_icmp .ge 21, 3, 30, 0, []), (12, .iload_n 1, 1, 0, 0, []), (13, .aload_n 0, 1, 0, 0, []), (14, .getfield 21, 3, 0, 0, []), (17, .iload_n 2, 1, 0, 0, []), (18, .iaload, 1, 0, 0, []), (19, .invokestatic 98, 3, 0, 0, []), (22, .iadd, 1, 0, 0, []), (23, .istore_n 1, 1, 0, 0, []), (24, .iinc 2 1, 3, 0, 1, []), (27, .goto (-23), 3, 4, 0, []), (30, .iload_n 1, 1, 0, 0, []), (31, .ireturn, 1, 0, 0, [])]
/-- X2_contracts -/
def xm_40 : xT := (2, [xm_40_0], [(4, [0, 1, 2], [], [])], some .int, false, 3)
def xm_41_0 : List xEn := [(0, .iconst 0, 1, 0, 0, []), (1, .istore_n 1, 1, 0, 0, []), (2, .iconst 0, 1, 0, 0, []), (3, .istore_n 2, 1, 0, 0, []), (4, .iload_n 2, 1, 0, 0, []), (5, .aload_n 0, 1, 0, 0, []), (6, .getfield 43, 3, 0, 0, []), (9, .if_icmp .ge 18, 3, 27, 0, []), (12, .iload_n 1, 1, 0, 0, []), (13, .aload_n 0, 1, 0, 0, []), (14, .getfield 15, 3, 0, 0, []), (17, .iload_n 2, 1, 0, 0, []), (18, .iaload, 1, 0, 0, []), (19, .iadd, 1, 0, 0, []), (20, .istore_n 1, 1, 0, 0, []), (21, .iinc 2 1, 3, 0, 1, []), (24, .goto (-20), 3, 4, 0, []), (27, .iload_n 1, 1, 0, 0, []), (28, .ireturn, 1, 0, 0, [])]
/-- X2_lovesTogether -/
def xm_41 : xT := (2, [xm_41_0], [(4, [0, 1, 2], [], [])], some .int, false, 3)
def xm_42_0 : List xEn := [(0, .iconst 0, 1, 0, 0, []), (1, .istore_n 1, 1, 0, 0, []), (2, .iconst 0, 1, 0, 0, []), (3, .istore_n 2, 1, 0, 0, []), (4, .iload_n 2, 1, 0, 0, []), (5, .bipush 10, 2, 0, 10, []), (7, .if_icmp .ge 22, 3, 29, 0, []), (10, .aload_n 0, 1, 0, 0, []), (11, .getfield 40, 3, 0, 0, []), (14, .iload_n 2, 1, 0, 0, []), (15, .iaload, 1, 0, 0, []), (16, .iconst (-1), 1, 0, (-1), []), (17, .if_icmp .eq 6, 3, 23, 0, []), (20, .iinc 1 1, 3, 0, 1, []), (23, .iinc 2 1, 3, 0, 1, []), (26, .goto (-22), 3, 4, 0, []), (29, .iload_n 1, 1, 0, 0, []), (30, .ireturn, 1, 0, 0, [])]
/-- X2_heldSpots -/
def xm_42 : xT := (2, [xm_42_0], [(4, [0, 1, 2], [], [])], some .int, false, 3)
def xm_43_0 : List xEn := [(0, .iload_n 1, 1, 0, 0, []), (1, .iconst 0, 1, 0, 0, []), (2, .iconst 3, 1, 0, 3, []), (3, .invokestatic 21, 3, 0, 0, []), (6, .ireturn, 1, 0, 0, [])]
/-- X3_isSheet -/
def xm_43 : xT := (3, [xm_43_0], [], some .boolean, false, 2)
def xm_44_0 : List xEn := [(0, .aload_n 0, 1, 0, 0, []), (1, .iload_n 1, 1, 0, 0, []), (2, .invokevirtual 25, 3, 0, 0, []), (5, .ifCond .ne 5, 3, 10, 0, []), (8, .iconst 0, 1, 0, 0, []), (9, .ireturn, 1, 0, 0, []), (10, .aload_n 0, 1, 0, 0, []), (11, .getfield 11, 3, 0, 0, []), (14, .iload_n 1, 1, 0, 0, []), (15, .iaload, 1, 0, 0, []), (16, .ifCond .ne 7, 3, 23, 0, []), (19, .iconst 5, 1, 0, 5, []), (20, .goto 4, 3, 24, 0, []), (23, .iconst (-1), 1, 0, (-1), []), (24, .ireturn, 1, 0, 0, [])]
/-- X3_wrongWith -/
def xm_44 : xT := (3, [xm_44_0], [], some .int, false, 2)
def xm_45_0 : List xEn := [(0, .aload_n 0, 1, 0, 0, []), (1, .getfield 11, 3, 0, 0, []), (4, .iload_n 1, 1, 0, 0, []), (5, .iload_n 2, 1, 0, 0, []), (6, .iastore, 1, 0, 0, []), (7, .aload_n 0, 1, 0, 0, []), (8, .getfield 15, 3, 0, 0, []), (11, .iload_n 1, 1, 0, 0, []), (12, .iload_n 2, 1, 0, 0, []), (13, .ifCond .ne 7, 3, 20, 0, []), (16, .iconst 0, 1, 0, 0, []), (17, .goto 4, 3, 21, 0, []), (20, .iload_n 3, 1, 0, 0, []), (21, .iastore, 1, 0, 0, []), (22, .iconst 0, 1, 0, 0, []), (23, .istore 4, 2, 0, 0, []), (25, .iload 4, 2, 0, 0, []), (27, .bipush 40, 2, 0, 40, []), (29, .if_icmp .ge 22, 3, 51, 0, [])]
def xm_45_1 : List xEn := [(32, .aload_n 0, 1, 0, 0, []), (33, .getfield 18, 3, 0, 0, []), (36, .iload_n 1, 1, 0, 0, []), (37, .bipush 40, 2, 0, 40, []), (39, .imul, 1, 0, 0, []), (40, .iload 4, 2, 0, 0, []), (42, .iadd, 1, 0, 0, []), (43, .iconst 0, 1, 0, 0, []), (44, .iastore, 1, 0, 0, []), (45, .iinc 4 1, 3, 0, 1, []), (48, .goto (-23), 3, 25, 0, []), (51, .aload_n 0, 1, 0, 0, []), (52, .getfield 15, 3, 0, 0, []), (55, .iload_n 1, 1, 0, 0, []), (56, .iaload, 1, 0, 0, []), (57, .ireturn, 1, 0, 0, [])]
/-- X3_lay -/
def xm_45 : xT := (3, [xm_45_0, xm_45_1], [(25, [0, 1, 4], [4900, 5000, 5100], []), (57, [], [4900, 5000, 5100], [])], some .int, false, 5)
def xm_46_0 : List xEn := [(0, .aload_n 0, 1, 0, 0, []), (1, .getfield 18, 3, 0, 0, []), (4, .iload_n 1, 1, 0, 0, []), (5, .bipush 40, 2, 0, 40, []), (7, .imul, 1, 0, 0, []), (8, .iload_n 2, 1, 0, 0, []), (9, .iadd, 1, 0, 0, []), (10, .iaload, 1, 0, 0, []), (11, .ireturn, 1, 0, 0, [])]
/-- X3_numberAt -/
def xm_46 : xT := (3, [xm_46_0], [], some .int, false, 3)
def xm_47_0 : List xEn := [(0, .bipush 32, 2, 0, 32, []), (2, .aload_n 0, 1, 0, 0, []), (3, .getfield 11, 3, 0, 0, []), (6, .iload_n 1, 1, 0, 0, []), (7, .iaload, 1, 0, 0, []), (8, .isub, 1, 0, 0, []), (9, .istore 4, 2, 0, 0, []), (11, .aload_n 0, 1, 0, 0, []), (12, .getfield 18, 3, 0, 0, []), (15, .iload_n 1, 1, 0, 0, []), (16, .bipush 40, 2, 0, 40, []), (18, .imul, 1, 0, 0, []), (19, .iload_n 2, 1, 0, 0, []), (20, .iadd, 1, 0, 0, []), (21, .iload_n 3, 1, 0, 0, []), (22, .iload 4, 2, 0, 0, []), (24, .ishl, 1, 0, 0, []), (25, .iload 4, 2, 0, 0, []), (27, .ishr, 1, 0, 0, []), (28, .iastore, 1, 0, 0, []), (29, .return_, 1, 0, 0, [])]
/-- X3_set -/
def xm_47 : xT := (3, [xm_47_0], [], none, false, 5)
def xm_48_0 : List xEn := [(0, .iload_n 3, 1, 0, 0, []), (1, .ifCond .lt 33, 3, 34, 0, []), (4, .iload_n 2, 1, 0, 0, []), (5, .iconst 0, 1, 0, 0, []), (6, .aload_n 0, 1, 0, 0, []), (7, .getfield 15, 3, 0, 0, []), (10, .iload_n 1, 1, 0, 0, []), (11, .iaload, 1, 0, 0, []), (12, .invokestatic 21, 3, 0, 0, []), (15, .ifCond .eq 19, 3, 34, 0, []), (18, .iload_n 3, 1, 0, 0, []), (19, .aload_n 0, 1, 0, 0, []), (20, .getfield 15, 3, 0, 0, []), (23, .iload_n 1, 1, 0, 0, []), (24, .iaload, 1, 0, 0, []), (25, .iload_n 2, 1, 0, 0, []), (26, .isub, 1, 0, 0, []), (27, .if_icmp .gt 7, 3, 34, 0, []), (30, .iconst 1, 1, 0, 1, []), (31, .goto 4, 3, 35, 0, [])]
def xm_48_1 : List xEn := [(34, .iconst 0, 1, 0, 0, []), (35, .ireturn, 1, 0, 0, [])]
/-- X3_hasPart -/
def xm_48 : xT := (3, [xm_48_0, xm_48_1], [], some .boolean, false, 4)
def xm_49_0 : List xEn := [(0, .aload_n 0, 1, 0, 0, []), (1, .getfield 18, 3, 0, 0, []), (4, .iload_n 1, 1, 0, 0, []), (5, .bipush 40, 2, 0, 40, []), (7, .imul, 1, 0, 0, []), (8, .iload_n 2, 1, 0, 0, []), (9, .iadd, 1, 0, 0, []), (10, .aload_n 0, 1, 0, 0, []), (11, .getfield 18, 3, 0, 0, []), (14, .iload_n 3, 1, 0, 0, []), (15, .bipush 40, 2, 0, 40, []), (17, .imul, 1, 0, 0, []), (18, .iload 4, 2, 0, 0, []), (20, .iadd, 1, 0, 0, []), (21, .iload 5, 2, 0, 0, []), (23, .invokestatic 29, 3, 0, 0, []), (26, .iload 5, 2, 0, 0, []), (28, .ireturn, 1, 0, 0, [])]
/-- X3_move -/
def xm_49 : xT := (3, [xm_49_0], [], some .int, false, 6)
def xm_50_0 : List xEn := [(0, .aload_n 0, 1, 0, 0, []), (1, .getfield 27, 3, 0, 0, []), (4, .iload_n 1, 1, 0, 0, []), (5, .iadd, 1, 0, 0, []), (6, .bipush 120, 2, 0, 120, []), (8, .if_icmp .gt 7, 3, 15, 0, []), (11, .iconst 1, 1, 0, 1, []), (12, .goto 4, 3, 16, 0, []), (15, .iconst 0, 1, 0, 0, []), (16, .ireturn, 1, 0, 0, [])]
/-- X4_hasRoom -/
def xm_50 : xT := (4, [xm_50_0], [], some .boolean, false, 2)
def xm_51_0 : List xEn := [(0, .iload_n 2, 1, 0, 0, []), (1, .iconst 1, 1, 0, 1, []), (2, .isub, 1, 0, 0, []), (3, .istore_n 3, 1, 0, 0, []), (4, .iload_n 3, 1, 0, 0, []), (5, .ifCond .lt 38, 3, 43, 0, []), (8, .aload_n 0, 1, 0, 0, []), (9, .getfield 11, 3, 0, 0, []), (12, .aload_n 0, 1, 0, 0, []), (13, .getfield 27, 3, 0, 0, []), (16, .iload_n 1, 1, 0, 0, []), (17, .bipush 8, 2, 0, 8, []), (19, .iload_n 3, 1, 0, 0, []), (20, .imul, 1, 0, 0, []), (21, .iushr, 1, 0, 0, []), (22, .sipush 255, 3, 0, 255, []), (25, .iand, 1, 0, 0, []), (26, .iastore, 1, 0, 0, []), (27, .aload_n 0, 1, 0, 0, []), (28, .dup, 1, 0, 0, []), (29, .getfield 27, 3, 0, 0, [])]
def xm_51_1 : List xEn := [(32, .iconst 1, 1, 0, 1, []), (33, .iadd, 1, 0, 0, []), (34, .putfield 27, 3, 0, 0, []), (37, .iinc 3 (-1), 3, 0, (-1), []), (40, .goto (-36), 3, 4, 0, []), (43, .aload_n 0, 1, 0, 0, []), (44, .getfield 27, 3, 0, 0, []), (47, .ireturn, 1, 0, 0, [])]
/-- X4_append -/
def xm_51 : xT := (4, [xm_51_0, xm_51_1], [(4, [0, 1, 3], [4202, 4300], []), (47, [], [4202, 4300], [])], some .int, false, 4)
def xm_52_0 : List xEn := [(0, .aload_n 0, 1, 0, 0, []), (1, .getfield 27, 3, 0, 0, []), (4, .istore_n 1, 1, 0, 0, []), (5, .aload_n 0, 1, 0, 0, []), (6, .iconst 0, 1, 0, 0, []), (7, .putfield 27, 3, 0, 0, []), (10, .iload_n 1, 1, 0, 0, []), (11, .ireturn, 1, 0, 0, [])]
/-- X4_empty -/
def xm_52 : xT := (4, [xm_52_0], [], some .int, false, 2)
def xm_53_0 : List xEn := [(0, .aload_n 0, 1, 0, 0, []), (1, .invokevirtual 31, 3, 0, 0, []), (4, .aload_n 0, 1, 0, 0, []), (5, .iconst 0, 1, 0, 0, []), (6, .invokevirtual 34, 3, 0, 0, []), (9, .iconst 1, 1, 0, 1, []), (10, .istore_n 2, 1, 0, 0, []), (11, .iload_n 2, 1, 0, 0, []), (12, .bipush 120, 2, 0, 120, []), (14, .if_icmp .gt 68, 3, 82, 0, []), (17, .aload_n 0, 1, 0, 0, []), (18, .aload_n 1, 1, 0, 0, []), (19, .invokevirtual 38, 3, 0, 0, []), (22, .ifCond .ne 15, 3, 37, 0, []), (25, .iconst (-1), 1, 0, (-1), []), (26, .aload_n 0, 1, 0, 0, []), (27, .getfield 18, 3, 0, 0, []), (30, .aload_n 0, 1, 0, 0, []), (31, .getfield 42, 3, 0, 0, [])]
def xm_53_1 : List xEn := [(34, .iaload, 1, 0, 0, []), (35, .isub, 1, 0, 0, []), (36, .ireturn, 1, 0, 0, []), (37, .aload_n 0, 1, 0, 0, []), (38, .getfield 45, 3, 0, 0, []), (41, .ifCond .ne 5, 3, 46, 0, []), (44, .iload_n 2, 1, 0, 0, []), (45, .ireturn, 1, 0, 0, []), (46, .aload_n 0, 1, 0, 0, []), (47, .getfield 45, 3, 0, 0, []), (50, .iconst 3, 1, 0, 3, []), (51, .if_icmp .eq 15, 3, 66, 0, []), (54, .iconst (-1), 1, 0, (-1), []), (55, .aload_n 0, 1, 0, 0, []), (56, .getfield 18, 3, 0, 0, []), (59, .aload_n 0, 1, 0, 0, []), (60, .getfield 42, 3, 0, 0, []), (63, .iaload, 1, 0, 0, [])]
def xm_53_2 : List xEn := [(64, .isub, 1, 0, 0, []), (65, .ireturn, 1, 0, 0, []), (66, .aload_n 0, 1, 0, 0, []), (67, .aload_n 0, 1, 0, 0, []), (68, .getfield 42, 3, 0, 0, []), (71, .iconst 1, 1, 0, 1, []), (72, .iadd, 1, 0, 0, []), (73, .invokevirtual 34, 3, 0, 0, []), (76, .iinc 2 1, 3, 0, 1, []), (79, .goto (-68), 3, 11, 0, []), (82, .iconst (-1), 1, 0, (-1), []), (83, .aload_n 0, 1, 0, 0, []), (84, .getfield 18, 3, 0, 0, []), (87, .aload_n 0, 1, 0, 0, []), (88, .getfield 42, 3, 0, 0, []), (91, .iaload, 1, 0, 0, []), (92, .isub, 1, 0, 0, []), (93, .ireturn, 1, 0, 0, [])]
/-- X4_readOnto -/
def xm_53 : xT := (4, [xm_53_0, xm_53_1, xm_53_2], [(11, [0, 1, 2], [2201, 2300, 2400, 2500, 2600, 2700, 4207, 4208, 4209, 4210, 4400, 4500, 4600, 4700], []), (93, [], [2201, 2300, 2400, 2500, 2600, 2700, 4207, 4208, 4209, 4210, 4400, 4500, 4600, 4700], [])], some .int, false, 3)
def xm_54_0 : List xEn := [(0, .aload_n 0, 1, 0, 0, []), (1, .getfield 45, 3, 0, 0, []), (4, .iconst 1, 1, 0, 1, []), (5, .if_icmp .eq 5, 3, 10, 0, []), (8, .iconst 0, 1, 0, 0, []), (9, .ireturn, 1, 0, 0, []), (10, .aload_n 0, 1, 0, 0, []), (11, .getfield 48, 3, 0, 0, []), (14, .iconst 0, 1, 0, 0, []), (15, .bipush 6, 2, 0, 6, []), (17, .invokestatic 51, 3, 0, 0, []), (20, .ifCond .eq 9, 3, 29, 0, []), (23, .aload_n 0, 1, 0, 0, []), (24, .aload_n 1, 1, 0, 0, []), (25, .invokevirtual 55, 3, 0, 0, []), (28, .ireturn, 1, 0, 0, []), (29, .aload_n 0, 1, 0, 0, []), (30, .getfield 48, 3, 0, 0, [])]
def xm_54_1 : List xEn := [(33, .bipush 7, 2, 0, 7, []), (35, .bipush 11, 2, 0, 11, []), (37, .invokestatic 51, 3, 0, 0, []), (40, .ifCond .eq 9, 3, 49, 0, []), (43, .aload_n 0, 1, 0, 0, []), (44, .aload_n 1, 1, 0, 0, []), (45, .invokevirtual 58, 3, 0, 0, []), (48, .ireturn, 1, 0, 0, []), (49, .aload_n 0, 1, 0, 0, []), (50, .getfield 48, 3, 0, 0, []), (53, .bipush 12, 2, 0, 12, []), (55, .if_icmp .ne 15, 3, 70, 0, []), (58, .aload_n 0, 1, 0, 0, []), (59, .aload_n 1, 1, 0, 0, []), (60, .invokevirtual 61, 3, 0, 0, []), (63, .ifCond .eq 7, 3, 70, 0, [])]
def xm_54_2 : List xEn := [(66, .iconst 1, 1, 0, 1, []), (67, .goto 4, 3, 71, 0, []), (70, .iconst 0, 1, 0, 0, []), (71, .ireturn, 1, 0, 0, [])]
/-- X4_readItem -/
def xm_54 : xT := (4, [xm_54_0, xm_54_1, xm_54_2], [(9, [], [2201, 2300, 2400, 2500, 2600, 2700, 4208, 4209, 4210], []), (28, [], [2201, 2300, 2400, 2500, 2600, 2700, 4208, 4209, 4210], []), (48, [], [2201, 2300, 2400, 2500, 2600, 2700, 4208, 4209, 4210], []), (71, [], [2201, 2300, 2400, 2500, 2600, 2700, 4208, 4209, 4210], [])], some .boolean, false, 2)
def xm_55_0 : List xEn := [(0, .aload_n 1, 1, 0, 0, []), (1, .getfield 64, 3, 0, 0, []), (4, .bipush 9, 2, 0, 9, []), (6, .if_icmp .lt 5, 3, 11, 0, []), (9, .iconst 0, 1, 0, 0, []), (10, .ireturn, 1, 0, 0, []), (11, .aload_n 1, 1, 0, 0, []), (12, .aload_n 0, 1, 0, 0, []), (13, .getfield 48, 3, 0, 0, []), (16, .invokevirtual 69, 3, 0, 0, []), (19, .istore_n 2, 1, 0, 0, []), (20, .aload_n 0, 1, 0, 0, []), (21, .aload_n 0, 1, 0, 0, []), (22, .getfield 42, 3, 0, 0, []), (25, .iconst 1, 1, 0, 1, []), (26, .iadd, 1, 0, 0, []), (27, .invokevirtual 34, 3, 0, 0, []), (30, .aload_n 0, 1, 0, 0, []), (31, .bipush 13, 2, 0, 13, [])]
def xm_55_1 : List xEn := [(33, .iconst 0, 1, 0, 0, []), (34, .bipush 99, 2, 0, 99, []), (36, .aload_n 1, 1, 0, 0, []), (37, .getfield 73, 3, 0, 0, []), (40, .iload_n 2, 1, 0, 0, []), (41, .invokevirtual 76, 3, 0, 0, []), (44, .ifCond .eq 44, 3, 88, 0, []), (47, .aload_n 0, 1, 0, 0, []), (48, .bipush 14, 2, 0, 14, []), (50, .iconst 1, 1, 0, 1, []), (51, .bipush 60, 2, 0, 60, []), (53, .aload_n 1, 1, 0, 0, []), (54, .getfield 80, 3, 0, 0, []), (57, .iload_n 2, 1, 0, 0, []), (58, .invokevirtual 76, 3, 0, 0, []), (61, .ifCond .eq 27, 3, 88, 0, [])]
def xm_55_2 : List xEn := [(64, .aload_n 0, 1, 0, 0, []), (65, .bipush 15, 2, 0, 15, []), (67, .iconst 0, 1, 0, 0, []), (68, .iconst 1, 1, 0, 1, []), (69, .iload_n 2, 1, 0, 0, []), (70, .ishl, 1, 0, 0, []), (71, .iconst 1, 1, 0, 1, []), (72, .isub, 1, 0, 0, []), (73, .aload_n 1, 1, 0, 0, []), (74, .getfield 83, 3, 0, 0, []), (77, .iload_n 2, 1, 0, 0, []), (78, .invokevirtual 76, 3, 0, 0, []), (81, .ifCond .eq 7, 3, 88, 0, []), (84, .iconst 1, 1, 0, 1, []), (85, .goto 4, 3, 89, 0, []), (88, .iconst 0, 1, 0, 0, []), (89, .ireturn, 1, 0, 0, [])]
/-- X4_readBow -/
def xm_55 : xT := (4, [xm_55_0, xm_55_1, xm_55_2], [(10, [], [2201, 2300, 2400, 2500, 2600, 4208, 4209, 4210], [])], some .boolean, false, 3)
def xm_56_0 : List xEn := [(0, .aload_n 0, 1, 0, 0, []), (1, .getfield 45, 3, 0, 0, []), (4, .iconst 1, 1, 0, 1, []), (5, .if_icmp .ne 11, 3, 16, 0, []), (8, .aload_n 0, 1, 0, 0, []), (9, .getfield 48, 3, 0, 0, []), (12, .iload_n 1, 1, 0, 0, []), (13, .if_icmp .eq 5, 3, 18, 0, []), (16, .iconst 1, 1, 0, 1, []), (17, .ireturn, 1, 0, 0, []), (18, .aload_n 0, 1, 0, 0, []), (19, .aload_n 0, 1, 0, 0, []), (20, .getfield 42, 3, 0, 0, []), (23, .iconst 1, 1, 0, 1, []), (24, .iadd, 1, 0, 0, []), (25, .invokevirtual 34, 3, 0, 0, []), (28, .aload_n 0, 1, 0, 0, []), (29, .iload_n 2, 1, 0, 0, []), (30, .iload_n 3, 1, 0, 0, []), (31, .invokevirtual 86, 3, 0, 0, [])]
def xm_56_1 : List xEn := [(34, .ifCond .ne 5, 3, 39, 0, []), (37, .iconst 0, 1, 0, 0, []), (38, .ireturn, 1, 0, 0, []), (39, .aload 4, 2, 0, 0, []), (41, .iload 5, 2, 0, 0, []), (43, .aload_n 0, 1, 0, 0, []), (44, .getfield 48, 3, 0, 0, []), (47, .iastore, 1, 0, 0, []), (48, .aload_n 0, 1, 0, 0, []), (49, .aload_n 0, 1, 0, 0, []), (50, .getfield 42, 3, 0, 0, []), (53, .iconst 1, 1, 0, 1, []), (54, .iadd, 1, 0, 0, []), (55, .invokevirtual 34, 3, 0, 0, []), (58, .iconst 1, 1, 0, 1, []), (59, .ireturn, 1, 0, 0, [])]
/-- X4_readPart -/
def xm_56 : xT := (4, [xm_56_0, xm_56_1], [(17, [], [4208, 4209, 4210], [4]), (38, [], [4208, 4209, 4210], [4])], some .boolean, false, 6)
def xm_57_0 : List xEn := [(0, .aload_n 0, 1, 0, 0, []), (1, .getfield 48, 3, 0, 0, []), (4, .bipush 7, 2, 0, 7, []), (6, .isub, 1, 0, 0, []), (7, .istore_n 2, 1, 0, 0, []), (8, .aload_n 0, 1, 0, 0, []), (9, .aload_n 0, 1, 0, 0, []), (10, .getfield 42, 3, 0, 0, []), (13, .iconst 1, 1, 0, 1, []), (14, .iadd, 1, 0, 0, []), (15, .invokevirtual 34, 3, 0, 0, []), (18, .aload_n 0, 1, 0, 0, []), (19, .iconst 0, 1, 0, 0, []), (20, .getstatic 90, 3, 0, 0, []), (23, .iload_n 2, 1, 0, 0, []), (24, .iaload, 1, 0, 0, []), (25, .invokevirtual 86, 3, 0, 0, []), (28, .ifCond .ne 5, 3, 33, 0, []), (31, .iconst 0, 1, 0, 0, [])]
def xm_57_1 : List xEn := [(32, .ireturn, 1, 0, 0, []), (33, .aload_n 1, 1, 0, 0, []), (34, .getfield 93, 3, 0, 0, []), (37, .iload_n 2, 1, 0, 0, []), (38, .aload_n 0, 1, 0, 0, []), (39, .getfield 48, 3, 0, 0, []), (42, .iastore, 1, 0, 0, []), (43, .aload_n 0, 1, 0, 0, []), (44, .aload_n 0, 1, 0, 0, []), (45, .getfield 42, 3, 0, 0, []), (48, .iconst 1, 1, 0, 1, []), (49, .iadd, 1, 0, 0, []), (50, .invokevirtual 34, 3, 0, 0, []), (53, .iconst 1, 1, 0, 1, []), (54, .ireturn, 1, 0, 0, [])]
/-- X4_readRule -/
def xm_57 : xT := (4, [xm_57_0, xm_57_1], [(32, [], [2700, 4208, 4209, 4210], [])], some .boolean, false, 3)
def xm_58_0 : List xEn := [(0, .aload_n 0, 1, 0, 0, []), (1, .aload_n 0, 1, 0, 0, []), (2, .getfield 42, 3, 0, 0, []), (5, .iconst 1, 1, 0, 1, []), (6, .iadd, 1, 0, 0, []), (7, .invokevirtual 34, 3, 0, 0, []), (10, .aload_n 0, 1, 0, 0, []), (11, .iconst 0, 1, 0, 0, []), (12, .aload_n 1, 1, 0, 0, []), (13, .getfield 64, 3, 0, 0, []), (16, .iconst 1, 1, 0, 1, []), (17, .isub, 1, 0, 0, []), (18, .invokevirtual 86, 3, 0, 0, []), (21, .ifCond .ne 5, 3, 26, 0, []), (24, .iconst 0, 1, 0, 0, []), (25, .ireturn, 1, 0, 0, []), (26, .aload_n 0, 1, 0, 0, []), (27, .getfield 48, 3, 0, 0, []), (30, .istore_n 2, 1, 0, 0, []), (31, .aload_n 0, 1, 0, 0, [])]
def xm_58_1 : List xEn := [(32, .aload_n 0, 1, 0, 0, []), (33, .getfield 42, 3, 0, 0, []), (36, .iconst 1, 1, 0, 1, []), (37, .iadd, 1, 0, 0, []), (38, .invokevirtual 34, 3, 0, 0, []), (41, .aload_n 0, 1, 0, 0, []), (42, .iconst 0, 1, 0, 0, []), (43, .aload_n 1, 1, 0, 0, []), (44, .getfield 64, 3, 0, 0, []), (47, .iconst 1, 1, 0, 1, []), (48, .isub, 1, 0, 0, []), (49, .invokevirtual 86, 3, 0, 0, []), (52, .ifCond .eq 11, 3, 63, 0, []), (55, .aload_n 0, 1, 0, 0, []), (56, .getfield 48, 3, 0, 0, []), (59, .iload_n 2, 1, 0, 0, []), (60, .if_icmp .ne 5, 3, 65, 0, []), (63, .iconst 0, 1, 0, 0, [])]
def xm_58_2 : List xEn := [(64, .ireturn, 1, 0, 0, []), (65, .aload_n 1, 1, 0, 0, []), (66, .getfield 83, 3, 0, 0, []), (69, .aload_n 0, 1, 0, 0, []), (70, .getfield 48, 3, 0, 0, []), (73, .dup2, 1, 0, 0, []), (74, .iaload, 1, 0, 0, []), (75, .iconst 1, 1, 0, 1, []), (76, .iload_n 2, 1, 0, 0, []), (77, .ishl, 1, 0, 0, []), (78, .ior, 1, 0, 0, []), (79, .iastore, 1, 0, 0, []), (80, .aload_n 0, 1, 0, 0, []), (81, .aload_n 0, 1, 0, 0, []), (82, .getfield 42, 3, 0, 0, []), (85, .iconst 1, 1, 0, 1, []), (86, .iadd, 1, 0, 0, []), (87, .invokevirtual 34, 3, 0, 0, []), (90, .iconst 1, 1, 0, 1, []), (91, .ireturn, 1, 0, 0, [])]
/-- X4_readContract -/
def xm_58 : xT := (4, [xm_58_0, xm_58_1, xm_58_2], [(25, [], [2600, 4208, 4209, 4210], []), (64, [], [2600, 4208, 4209, 4210], [])], some .boolean, false, 3)
def xm_59_0 : List xEn := [(0, .aload_n 0, 1, 0, 0, []), (1, .getfield 45, 3, 0, 0, []), (4, .iconst 2, 1, 0, 2, []), (5, .if_icmp .ne 19, 3, 24, 0, []), (8, .aload_n 0, 1, 0, 0, []), (9, .getfield 48, 3, 0, 0, []), (12, .iload_n 1, 1, 0, 0, []), (13, .iload_n 2, 1, 0, 0, []), (14, .invokestatic 51, 3, 0, 0, []), (17, .ifCond .eq 7, 3, 24, 0, []), (20, .iconst 1, 1, 0, 1, []), (21, .goto 4, 3, 25, 0, []), (24, .iconst 0, 1, 0, 0, []), (25, .ireturn, 1, 0, 0, [])]
/-- X4_isNumber -/
def xm_59 : xT := (4, [xm_59_0], [], some .boolean, false, 3)
def xm_60_0 : List xEn := [(0, .aload_n 0, 1, 0, 0, []), (1, .iconst 0, 1, 0, 0, []), (2, .putfield 96, 3, 0, 0, []), (5, .iconst 0, 1, 0, 0, []), (6, .istore_n 1, 1, 0, 0, []), (7, .iconst 0, 1, 0, 0, []), (8, .istore_n 2, 1, 0, 0, []), (9, .iload_n 2, 1, 0, 0, []), (10, .aload_n 0, 1, 0, 0, []), (11, .getfield 27, 3, 0, 0, []), (14, .if_icmp .ge 118, 3, 132, 0, []), (17, .aload_n 0, 1, 0, 0, []), (18, .getfield 11, 3, 0, 0, []), (21, .iload_n 2, 1, 0, 0, []), (22, .iaload, 1, 0, 0, []), (23, .invokestatic 99, 3, 0, 0, []), (26, .istore_n 3, 1, 0, 0, []), (27, .iload_n 3, 1, 0, 0, []), (28, .iload_n 1, 1, 0, 0, []), (29, .if_icmp .ne 17, 3, 46, 0, [])]
def xm_60_1 : List xEn := [(32, .iload_n 3, 1, 0, 0, []), (33, .iconst 1, 1, 0, 1, []), (34, .if_icmp .eq 8, 3, 42, 0, []), (37, .iload_n 3, 1, 0, 0, []), (38, .iconst 2, 1, 0, 2, []), (39, .if_icmp .ne 7, 3, 46, 0, []), (42, .iconst 1, 1, 0, 1, []), (43, .goto 4, 3, 47, 0, []), (46, .iconst 0, 1, 0, 0, []), (47, .istore 4, 2, 0, 0, []), (49, .iload 4, 2, 0, 0, []), (51, .ifCond .eq 28, 3, 79, 0, []), (54, .aload_n 0, 1, 0, 0, []), (55, .getfield 96, 3, 0, 0, []), (58, .ifCond .le 21, 3, 79, 0, []), (61, .aload_n 0, 1, 0, 0, []), (62, .getfield 21, 3, 0, 0, [])]
def xm_60_2 : List xEn := [(65, .aload_n 0, 1, 0, 0, []), (66, .getfield 96, 3, 0, 0, []), (69, .iconst 1, 1, 0, 1, []), (70, .isub, 1, 0, 0, []), (71, .dup2, 1, 0, 0, []), (72, .iaload, 1, 0, 0, []), (73, .iconst 1, 1, 0, 1, []), (74, .iadd, 1, 0, 0, []), (75, .iastore, 1, 0, 0, []), (76, .goto 48, 3, 124, 0, []), (79, .iload_n 3, 1, 0, 0, []), (80, .iconst 4, 1, 0, 4, []), (81, .if_icmp .eq 43, 3, 124, 0, []), (84, .aload_n 0, 1, 0, 0, []), (85, .getfield 15, 3, 0, 0, []), (88, .aload_n 0, 1, 0, 0, []), (89, .getfield 96, 3, 0, 0, []), (92, .iload_n 3, 1, 0, 0, []), (93, .iastore, 1, 0, 0, []), (94, .aload_n 0, 1, 0, 0, []), (95, .getfield 18, 3, 0, 0, [])]
def xm_60_3 : List xEn := [(98, .aload_n 0, 1, 0, 0, []), (99, .getfield 96, 3, 0, 0, []), (102, .iload_n 2, 1, 0, 0, []), (103, .iastore, 1, 0, 0, []), (104, .aload_n 0, 1, 0, 0, []), (105, .getfield 21, 3, 0, 0, []), (108, .aload_n 0, 1, 0, 0, []), (109, .getfield 96, 3, 0, 0, []), (112, .iconst 1, 1, 0, 1, []), (113, .iastore, 1, 0, 0, []), (114, .aload_n 0, 1, 0, 0, []), (115, .dup, 1, 0, 0, []), (116, .getfield 96, 3, 0, 0, []), (119, .iconst 1, 1, 0, 1, []), (120, .iadd, 1, 0, 0, []), (121, .putfield 96, 3, 0, 0, []), (124, .iload_n 3, 1, 0, 0, []), (125, .istore_n 1, 1, 0, 0, []), (126, .iinc 2 1, 3, 0, 1, [])]
def xm_60_4 : List xEn := [(129, .goto (-120), 3, 9, 0, []), (132, .aload_n 0, 1, 0, 0, []), (133, .getfield 15, 3, 0, 0, []), (136, .aload_n 0, 1, 0, 0, []), (137, .getfield 96, 3, 0, 0, []), (140, .iconst 0, 1, 0, 0, []), (141, .iastore, 1, 0, 0, []), (142, .aload_n 0, 1, 0, 0, []), (143, .getfield 18, 3, 0, 0, []), (146, .aload_n 0, 1, 0, 0, []), (147, .getfield 96, 3, 0, 0, []), (150, .aload_n 0, 1, 0, 0, []), (151, .getfield 27, 3, 0, 0, []), (154, .iastore, 1, 0, 0, []), (155, .iconst 0, 1, 0, 0, []), (156, .istore_n 2, 1, 0, 0, []), (157, .iload_n 2, 1, 0, 0, []), (158, .aload_n 0, 1, 0, 0, []), (159, .getfield 96, 3, 0, 0, [])]
def xm_60_5 : List xEn := [(162, .if_icmp .gt 20, 3, 182, 0, []), (165, .aload_n 0, 1, 0, 0, []), (166, .getfield 24, 3, 0, 0, []), (169, .iload_n 2, 1, 0, 0, []), (170, .aload_n 0, 1, 0, 0, []), (171, .iload_n 2, 1, 0, 0, []), (172, .invokevirtual 102, 3, 0, 0, []), (175, .iastore, 1, 0, 0, []), (176, .iinc 2 1, 3, 0, 1, []), (179, .goto (-22), 3, 157, 0, []), (182, .return_, 1, 0, 0, [])]
/-- X4_cut -/
def xm_60 : xT := (4, [xm_60_0, xm_60_1, xm_60_2, xm_60_3, xm_60_4, xm_60_5], [(9, [0, 1, 2], [4207, 4400, 4500, 4600], []), (47, [0, 2, 3], [4207, 4400, 4500, 4600], []), (79, [0, 2, 3], [4207, 4400, 4500, 4600], []), (157, [0, 2], [4207, 4400, 4500, 4600, 4700], []), (182, [], [4207, 4400, 4500, 4600, 4700], [])], none, false, 5)
def xm_61_0 : List xEn := [(0, .aload_n 0, 1, 0, 0, []), (1, .getfield 15, 3, 0, 0, []), (4, .iload_n 1, 1, 0, 0, []), (5, .iaload, 1, 0, 0, []), (6, .iconst 1, 1, 0, 1, []), (7, .if_icmp .ne 20, 3, 27, 0, []), (10, .aload_n 0, 1, 0, 0, []), (11, .aload_n 0, 1, 0, 0, []), (12, .getfield 18, 3, 0, 0, []), (15, .iload_n 1, 1, 0, 0, []), (16, .iaload, 1, 0, 0, []), (17, .aload_n 0, 1, 0, 0, []), (18, .getfield 21, 3, 0, 0, []), (21, .iload_n 1, 1, 0, 0, []), (22, .iaload, 1, 0, 0, []), (23, .invokevirtual 105, 3, 0, 0, []), (26, .ireturn, 1, 0, 0, []), (27, .aload_n 0, 1, 0, 0, []), (28, .getfield 15, 3, 0, 0, []), (31, .iload_n 1, 1, 0, 0, [])]
def xm_61_1 : List xEn := [(32, .iaload, 1, 0, 0, []), (33, .iconst 2, 1, 0, 2, []), (34, .if_icmp .ne 22, 3, 56, 0, []), (37, .aload_n 0, 1, 0, 0, []), (38, .aload_n 0, 1, 0, 0, []), (39, .getfield 18, 3, 0, 0, []), (42, .iload_n 1, 1, 0, 0, []), (43, .iaload, 1, 0, 0, []), (44, .aload_n 0, 1, 0, 0, []), (45, .getfield 21, 3, 0, 0, []), (48, .iload_n 1, 1, 0, 0, []), (49, .iaload, 1, 0, 0, []), (50, .invokevirtual 109, 3, 0, 0, []), (53, .goto 4, 3, 57, 0, []), (56, .iconst 0, 1, 0, 0, []), (57, .ireturn, 1, 0, 0, [])]
/-- X4_valueOf -/
def xm_61 : xT := (4, [xm_61_0, xm_61_1], [], some .int, false, 2)
def xm_62_0 : List xEn := [(0, .iload_n 0, 1, 0, 0, []), (1, .bipush 97, 2, 0, 97, []), (3, .if_icmp .lt 11, 3, 14, 0, []), (6, .iload_n 0, 1, 0, 0, []), (7, .bipush 122, 2, 0, 122, []), (9, .if_icmp .gt 5, 3, 14, 0, []), (12, .iconst 1, 1, 0, 1, []), (13, .ireturn, 1, 0, 0, []), (14, .iload_n 0, 1, 0, 0, []), (15, .bipush 48, 2, 0, 48, []), (17, .if_icmp .lt 11, 3, 28, 0, []), (20, .iload_n 0, 1, 0, 0, []), (21, .bipush 57, 2, 0, 57, []), (23, .if_icmp .gt 5, 3, 28, 0, []), (26, .iconst 2, 1, 0, 2, []), (27, .ireturn, 1, 0, 0, []), (28, .iload_n 0, 1, 0, 0, []), (29, .bipush 59, 2, 0, 59, []), (31, .if_icmp .ne 5, 3, 36, 0, [])]
def xm_62_1 : List xEn := [(34, .iconst 3, 1, 0, 3, []), (35, .ireturn, 1, 0, 0, []), (36, .iload_n 0, 1, 0, 0, []), (37, .bipush 32, 2, 0, 32, []), (39, .if_icmp .ne 7, 3, 46, 0, []), (42, .iconst 4, 1, 0, 4, []), (43, .goto 4, 3, 47, 0, []), (46, .iconst 5, 1, 0, 5, []), (47, .ireturn, 1, 0, 0, [])]
/-- X4_sortOf -/
def xm_62 : xT := (4, [xm_62_0, xm_62_1], [(14, [0], [], []), (28, [0], [], [])], some .int, false, 1)
def xm_63_0 : List xEn := [(0, .aload_n 0, 1, 0, 0, []), (1, .iload_n 1, 1, 0, 0, []), (2, .aload_n 0, 1, 0, 0, []), (3, .getfield 96, 3, 0, 0, []), (6, .invokestatic 112, 3, 0, 0, []), (9, .putfield 42, 3, 0, 0, []), (12, .aload_n 0, 1, 0, 0, []), (13, .aload_n 0, 1, 0, 0, []), (14, .getfield 15, 3, 0, 0, []), (17, .aload_n 0, 1, 0, 0, []), (18, .getfield 42, 3, 0, 0, []), (21, .iaload, 1, 0, 0, []), (22, .putfield 45, 3, 0, 0, []), (25, .aload_n 0, 1, 0, 0, []), (26, .aload_n 0, 1, 0, 0, []), (27, .getfield 24, 3, 0, 0, []), (30, .aload_n 0, 1, 0, 0, []), (31, .getfield 42, 3, 0, 0, [])]
def xm_63_1 : List xEn := [(34, .iaload, 1, 0, 0, []), (35, .putfield 48, 3, 0, 0, []), (38, .return_, 1, 0, 0, [])]
/-- X4_take -/
def xm_63 : xT := (4, [xm_63_0, xm_63_1], [], none, false, 2)
def xm_64_0 : List xEn := [(0, .iconst 0, 1, 0, 0, []), (1, .istore_n 3, 1, 0, 0, []), (2, .iload_n 3, 1, 0, 0, []), (3, .bipush 16, 2, 0, 16, []), (5, .if_icmp .ge 24, 3, 29, 0, []), (8, .aload_n 0, 1, 0, 0, []), (9, .iload_n 3, 1, 0, 0, []), (10, .invokestatic 117, 3, 0, 0, []), (13, .iload_n 1, 1, 0, 0, []), (14, .iload_n 2, 1, 0, 0, []), (15, .invokevirtual 121, 3, 0, 0, []), (18, .ifCond .eq 5, 3, 23, 0, []), (21, .iload_n 3, 1, 0, 0, []), (22, .ireturn, 1, 0, 0, []), (23, .iinc 3 1, 3, 0, 1, []), (26, .goto (-24), 3, 2, 0, []), (29, .iconst (-1), 1, 0, (-1), []), (30, .ireturn, 1, 0, 0, [])]
/-- X4_wordAt -/
def xm_64 : xT := (4, [xm_64_0], [(2, [0, 1, 2, 3], [], [])], some .int, false, 4)
def xm_65_0 : List xEn := [(0, .aload_n 1, 1, 0, 0, []), (1, .invokevirtual 125, 3, 0, 0, []), (4, .iload_n 3, 1, 0, 0, []), (5, .if_icmp .eq 5, 3, 10, 0, []), (8, .iconst 0, 1, 0, 0, []), (9, .ireturn, 1, 0, 0, []), (10, .iconst 0, 1, 0, 0, []), (11, .istore 4, 2, 0, 0, []), (13, .iload 4, 2, 0, 0, []), (15, .iload_n 3, 1, 0, 0, []), (16, .if_icmp .ge 29, 3, 45, 0, []), (19, .aload_n 1, 1, 0, 0, []), (20, .iload 4, 2, 0, 0, []), (22, .invokevirtual 131, 3, 0, 0, []), (25, .aload_n 0, 1, 0, 0, []), (26, .getfield 11, 3, 0, 0, []), (29, .iload_n 2, 1, 0, 0, []), (30, .iload 4, 2, 0, 0, [])]
def xm_65_1 : List xEn := [(32, .iadd, 1, 0, 0, []), (33, .iaload, 1, 0, 0, []), (34, .if_icmp .eq 5, 3, 39, 0, []), (37, .iconst 0, 1, 0, 0, []), (38, .ireturn, 1, 0, 0, []), (39, .iinc 4 1, 3, 0, 1, []), (42, .goto (-29), 3, 13, 0, []), (45, .iconst 1, 1, 0, 1, []), (46, .ireturn, 1, 0, 0, [])]
/-- X4_isWord -/
def xm_65 : xT := (4, [xm_65_0, xm_65_1], [(13, [0, 1, 2, 3, 4], [], [])], some .boolean, false, 5)
def xm_66_0 : List xEn := [(0, .iconst 0, 1, 0, 0, []), (1, .istore_n 3, 1, 0, 0, []), (2, .iload_n 1, 1, 0, 0, []), (3, .istore 4, 2, 0, 0, []), (5, .iload 4, 2, 0, 0, []), (7, .iload_n 1, 1, 0, 0, []), (8, .iload_n 2, 1, 0, 0, []), (9, .iadd, 1, 0, 0, []), (10, .if_icmp .ge 31, 3, 41, 0, []), (13, .iload_n 3, 1, 0, 0, []), (14, .bipush 10, 2, 0, 10, []), (16, .imul, 1, 0, 0, []), (17, .aload_n 0, 1, 0, 0, []), (18, .getfield 11, 3, 0, 0, []), (21, .iload 4, 2, 0, 0, []), (23, .iaload, 1, 0, 0, []), (24, .iadd, 1, 0, 0, []), (25, .bipush 48, 2, 0, 48, []), (27, .isub, 1, 0, 0, []), (28, .sipush 1000, 3, 0, 1000, []), (31, .invokestatic 112, 3, 0, 0, [])]
def xm_66_1 : List xEn := [(34, .istore_n 3, 1, 0, 0, []), (35, .iinc 4 1, 3, 0, 1, []), (38, .goto (-33), 3, 5, 0, []), (41, .iload_n 3, 1, 0, 0, []), (42, .ireturn, 1, 0, 0, [])]
/-- X4_numberAt -/
def xm_66 : xT := (4, [xm_66_0, xm_66_1], [(5, [0, 1, 2, 3, 4], [], [])], some .int, false, 5)
def xm_67_0 : List xEn := [(0, .iload_n 0, 1, 0, 0, []), (1, .tableswitch 120 0 14 #[75, 78, 81, 84, 87, 90, 93, 96, 99, 102, 105, 108, 111, 114, 117], 75, 121, 0, [(0, 76), (1, 79), (2, 82), (3, 85), (4, 88), (5, 91), (6, 94), (7, 97), (8, 100), (9, 103), (10, 106), (11, 109), (12, 112), (13, 115), (14, 118)])]
def xm_67_2 : List xEn := [(76, .ldc 135, 2, 0, 0, []), (78, .areturn, 1, 0, 0, []), (79, .ldc 137, 2, 0, 0, []), (81, .areturn, 1, 0, 0, []), (82, .ldc 139, 2, 0, 0, []), (84, .areturn, 1, 0, 0, []), (85, .ldc 141, 2, 0, 0, []), (87, .areturn, 1, 0, 0, []), (88, .ldc 143, 2, 0, 0, []), (90, .areturn, 1, 0, 0, []), (91, .ldc 145, 2, 0, 0, []), (93, .areturn, 1, 0, 0, []), (94, .ldc 147, 2, 0, 0, [])]
def xm_67_3 : List xEn := [(96, .areturn, 1, 0, 0, []), (97, .ldc 149, 2, 0, 0, []), (99, .areturn, 1, 0, 0, []), (100, .ldc 151, 2, 0, 0, []), (102, .areturn, 1, 0, 0, []), (103, .ldc 153, 2, 0, 0, []), (105, .areturn, 1, 0, 0, []), (106, .ldc 155, 2, 0, 0, []), (108, .areturn, 1, 0, 0, []), (109, .ldc 157, 2, 0, 0, []), (111, .areturn, 1, 0, 0, []), (112, .ldc 159, 2, 0, 0, []), (114, .areturn, 1, 0, 0, []), (115, .ldc 161, 2, 0, 0, []), (117, .areturn, 1, 0, 0, []), (118, .ldc 163, 2, 0, 0, []), (120, .areturn, 1, 0, 0, []), (121, .ldc 164, 2, 0, 0, []), (123, .areturn, 1, 0, 0, [])]
/-- X4_spelled -/
def xm_67 : xT := (4, [xm_67_0, [], xm_67_2, xm_67_3], [], some (.object "java/lang/String"), false, 1)
def xm_68_0 : List xEn := [(0, .iload_n 1, 1, 0, 0, []), (1, .iconst 0, 1, 0, 0, []), (2, .bipush 6, 2, 0, 6, []), (4, .invokestatic 51, 3, 0, 0, []), (7, .ifCond .ne 9, 3, 16, 0, []), (10, .aload_n 0, 1, 0, 0, []), (11, .iconst 0, 1, 0, 0, []), (12, .invokevirtual 55, 3, 0, 0, []), (15, .ireturn, 1, 0, 0, []), (16, .aload_n 0, 1, 0, 0, []), (17, .getfield 16, 3, 0, 0, []), (20, .getfield 59, 3, 0, 0, []), (23, .bipush 9, 2, 0, 9, []), (25, .if_icmp .lt 9, 3, 34, 0, []), (28, .aload_n 0, 1, 0, 0, []), (29, .iconst 1, 1, 0, 1, []), (30, .invokevirtual 55, 3, 0, 0, [])]
def xm_68_1 : List xEn := [(33, .ireturn, 1, 0, 0, []), (34, .aload_n 0, 1, 0, 0, []), (35, .getfield 16, 3, 0, 0, []), (38, .iload_n 1, 1, 0, 0, []), (39, .invokevirtual 63, 3, 0, 0, []), (42, .ireturn, 1, 0, 0, [])]
/-- X5_bow -/
def xm_68 : xT := (5, [xm_68_0, xm_68_1], [(15, [], [100, 201, 300, 400, 500, 600], []), (33, [], [100, 201, 300, 400, 500, 600], []), (42, [], [100, 201, 300, 400, 500, 600], [])], some .int, false, 2)
def xm_69_0 : List xEn := [(0, .aload_n 0, 1, 0, 0, []), (1, .getfield 16, 3, 0, 0, []), (4, .iload_n 1, 1, 0, 0, []), (5, .invokevirtual 66, 3, 0, 0, []), (8, .ifCond .ne 9, 3, 17, 0, []), (11, .aload_n 0, 1, 0, 0, []), (12, .iconst 0, 1, 0, 0, []), (13, .invokevirtual 55, 3, 0, 0, []), (16, .ireturn, 1, 0, 0, []), (17, .iload_n 2, 1, 0, 0, []), (18, .tableswitch 116 0 6 #[42, 52, 62, 72, 82, 91, 100], 42, 134, 0, [(0, 60), (1, 70), (2, 80), (3, 90), (4, 100), (5, 109), (6, 118)])]
def xm_69_1 : List xEn := [(60, .aload_n 0, 1, 0, 0, []), (61, .getfield 16, 3, 0, 0, [])]
def xm_69_2 : List xEn := [(64, .getfield 70, 3, 0, 0, []), (67, .iload_n 1, 1, 0, 0, []), (68, .iaload, 1, 0, 0, []), (69, .ireturn, 1, 0, 0, []), (70, .aload_n 0, 1, 0, 0, []), (71, .getfield 16, 3, 0, 0, []), (74, .getfield 73, 3, 0, 0, []), (77, .iload_n 1, 1, 0, 0, []), (78, .iaload, 1, 0, 0, []), (79, .ireturn, 1, 0, 0, []), (80, .aload_n 0, 1, 0, 0, []), (81, .getfield 16, 3, 0, 0, []), (84, .getfield 76, 3, 0, 0, []), (87, .iload_n 1, 1, 0, 0, []), (88, .iaload, 1, 0, 0, []), (89, .ireturn, 1, 0, 0, []), (90, .aload_n 0, 1, 0, 0, []), (91, .getfield 16, 3, 0, 0, []), (94, .getfield 79, 3, 0, 0, [])]
def xm_69_3 : List xEn := [(97, .iload_n 1, 1, 0, 0, []), (98, .iaload, 1, 0, 0, []), (99, .ireturn, 1, 0, 0, []), (100, .aload_n 0, 1, 0, 0, []), (101, .getfield 16, 3, 0, 0, []), (104, .iload_n 1, 1, 0, 0, []), (105, .invokevirtual 82, 3, 0, 0, []), (108, .ireturn, 1, 0, 0, []), (109, .aload_n 0, 1, 0, 0, []), (110, .getfield 16, 3, 0, 0, []), (113, .iload_n 1, 1, 0, 0, []), (114, .invokevirtual 85, 3, 0, 0, []), (117, .ireturn, 1, 0, 0, []), (118, .aload_n 0, 1, 0, 0, []), (119, .getfield 16, 3, 0, 0, []), (122, .iload_n 1, 1, 0, 0, []), (123, .aload_n 0, 1, 0, 0, []), (124, .getfield 16, 3, 0, 0, []), (127, .invokevirtual 88, 3, 0, 0, [])]
def xm_69_4 : List xEn := [(130, .invokevirtual 92, 3, 0, 0, []), (133, .ireturn, 1, 0, 0, []), (134, .aload_n 0, 1, 0, 0, []), (135, .iconst 0, 1, 0, 0, []), (136, .invokevirtual 55, 3, 0, 0, []), (139, .ireturn, 1, 0, 0, [])]
/-- X5_of -/
def xm_69 : xT := (5, [xm_69_0, xm_69_1, xm_69_2, xm_69_3, xm_69_4], [(69, [], [100], []), (79, [], [100], []), (89, [], [100], []), (99, [], [100], []), (108, [], [100], []), (117, [], [100], []), (133, [], [100], [])], some .int, false, 3)
def xm_70_0 : List xEn := [(0, .aload_n 0, 1, 0, 0, []), (1, .getfield 16, 3, 0, 0, []), (4, .iload_n 1, 1, 0, 0, []), (5, .invokevirtual 66, 3, 0, 0, []), (8, .ifCond .ne 9, 3, 17, 0, []), (11, .aload_n 0, 1, 0, 0, []), (12, .iconst 0, 1, 0, 0, []), (13, .invokevirtual 55, 3, 0, 0, []), (16, .ireturn, 1, 0, 0, []), (17, .iload_n 2, 1, 0, 0, []), (18, .tableswitch 156 0 3 #[30, 61, 92, 123], 30, 174, 0, [(0, 48), (1, 79), (2, 110), (3, 141)])]
def xm_70_1 : List xEn := [(48, .iload_n 3, 1, 0, 0, []), (49, .iconst 0, 1, 0, 0, []), (50, .bipush 6, 2, 0, 6, []), (52, .invokestatic 51, 3, 0, 0, []), (55, .ifCond .eq 18, 3, 73, 0, []), (58, .aload_n 0, 1, 0, 0, []), (59, .getfield 16, 3, 0, 0, []), (62, .getfield 70, 3, 0, 0, [])]
def xm_70_2 : List xEn := [(65, .iload_n 1, 1, 0, 0, []), (66, .iload_n 3, 1, 0, 0, []), (67, .invokestatic 96, 3, 0, 0, []), (70, .goto 8, 3, 78, 0, []), (73, .aload_n 0, 1, 0, 0, []), (74, .iconst 0, 1, 0, 0, []), (75, .invokevirtual 55, 3, 0, 0, []), (78, .ireturn, 1, 0, 0, []), (79, .iload_n 3, 1, 0, 0, []), (80, .iconst 0, 1, 0, 0, []), (81, .bipush 99, 2, 0, 99, []), (83, .invokestatic 51, 3, 0, 0, []), (86, .ifCond .eq 18, 3, 104, 0, []), (89, .aload_n 0, 1, 0, 0, []), (90, .getfield 16, 3, 0, 0, []), (93, .getfield 73, 3, 0, 0, [])]
def xm_70_3 : List xEn := [(96, .iload_n 1, 1, 0, 0, []), (97, .iload_n 3, 1, 0, 0, []), (98, .invokestatic 96, 3, 0, 0, []), (101, .goto 8, 3, 109, 0, []), (104, .aload_n 0, 1, 0, 0, []), (105, .iconst 0, 1, 0, 0, []), (106, .invokevirtual 55, 3, 0, 0, []), (109, .ireturn, 1, 0, 0, []), (110, .iload_n 3, 1, 0, 0, []), (111, .iconst 1, 1, 0, 1, []), (112, .bipush 60, 2, 0, 60, []), (114, .invokestatic 51, 3, 0, 0, []), (117, .ifCond .eq 18, 3, 135, 0, []), (120, .aload_n 0, 1, 0, 0, []), (121, .getfield 16, 3, 0, 0, []), (124, .getfield 76, 3, 0, 0, []), (127, .iload_n 1, 1, 0, 0, [])]
def xm_70_4 : List xEn := [(128, .iload_n 3, 1, 0, 0, []), (129, .invokestatic 96, 3, 0, 0, []), (132, .goto 8, 3, 140, 0, []), (135, .aload_n 0, 1, 0, 0, []), (136, .iconst 0, 1, 0, 0, []), (137, .invokevirtual 55, 3, 0, 0, []), (140, .ireturn, 1, 0, 0, []), (141, .aload_n 0, 1, 0, 0, []), (142, .getfield 16, 3, 0, 0, []), (145, .iload_n 3, 1, 0, 0, []), (146, .iload_n 1, 1, 0, 0, []), (147, .invokevirtual 100, 3, 0, 0, []), (150, .ifCond .eq 18, 3, 168, 0, []), (153, .aload_n 0, 1, 0, 0, []), (154, .getfield 16, 3, 0, 0, []), (157, .getfield 79, 3, 0, 0, [])]
def xm_70_5 : List xEn := [(160, .iload_n 1, 1, 0, 0, []), (161, .iload_n 3, 1, 0, 0, []), (162, .invokestatic 96, 3, 0, 0, []), (165, .goto 8, 3, 173, 0, []), (168, .aload_n 0, 1, 0, 0, []), (169, .iconst 0, 1, 0, 0, []), (170, .invokevirtual 55, 3, 0, 0, []), (173, .ireturn, 1, 0, 0, []), (174, .aload_n 0, 1, 0, 0, []), (175, .iconst 0, 1, 0, 0, []), (176, .invokevirtual 55, 3, 0, 0, []), (179, .ireturn, 1, 0, 0, [])]
/-- X5_change -/
def xm_70 : xT := (5, [xm_70_0, xm_70_1, xm_70_2, xm_70_3, xm_70_4, xm_70_5], [(16, [], [100, 300, 400, 500, 600], []), (78, [], [100, 300, 400, 500, 600], []), (109, [], [100, 300, 400, 500, 600], []), (140, [], [100, 300, 400, 500, 600], []), (173, [], [100, 300, 400, 500, 600], []), (179, [], [100, 300, 400, 500, 600], [])], some .int, false, 4)
def xm_71_0 : List xEn := [(0, .aload_n 0, 1, 0, 0, []), (1, .getfield 16, 3, 0, 0, []), (4, .iload_n 1, 1, 0, 0, []), (5, .invokevirtual 66, 3, 0, 0, []), (8, .ifCond .eq 28, 3, 36, 0, []), (11, .aload_n 0, 1, 0, 0, []), (12, .getfield 16, 3, 0, 0, []), (15, .iload_n 2, 1, 0, 0, []), (16, .invokevirtual 66, 3, 0, 0, []), (19, .ifCond .eq 17, 3, 36, 0, []), (22, .iload_n 1, 1, 0, 0, []), (23, .iload_n 2, 1, 0, 0, []), (24, .if_icmp .eq 12, 3, 36, 0, []), (27, .iload_n 3, 1, 0, 0, []), (28, .iconst 0, 1, 0, 0, []), (29, .iconst 1, 1, 0, 1, []), (30, .invokestatic 51, 3, 0, 0, [])]
def xm_71_1 : List xEn := [(33, .ifCond .ne 9, 3, 42, 0, []), (36, .aload_n 0, 1, 0, 0, []), (37, .iconst 0, 1, 0, 0, []), (38, .invokevirtual 55, 3, 0, 0, []), (41, .ireturn, 1, 0, 0, []), (42, .aload_n 0, 1, 0, 0, []), (43, .getfield 16, 3, 0, 0, []), (46, .getfield 79, 3, 0, 0, []), (49, .iload_n 2, 1, 0, 0, []), (50, .iaload, 1, 0, 0, []), (51, .istore 4, 2, 0, 0, []), (53, .iload_n 3, 1, 0, 0, []), (54, .iconst 1, 1, 0, 1, []), (55, .if_icmp .ne 12, 3, 67, 0, []), (58, .iload 4, 2, 0, 0, []), (60, .iconst 1, 1, 0, 1, []), (61, .iload_n 1, 1, 0, 0, []), (62, .ishl, 1, 0, 0, []), (63, .ior, 1, 0, 0, [])]
def xm_71_2 : List xEn := [(64, .goto 11, 3, 75, 0, []), (67, .iload 4, 2, 0, 0, []), (69, .iconst 1, 1, 0, 1, []), (70, .iload_n 1, 1, 0, 0, []), (71, .ishl, 1, 0, 0, []), (72, .iconst (-1), 1, 0, (-1), []), (73, .ixor, 1, 0, 0, []), (74, .iand, 1, 0, 0, []), (75, .istore 5, 2, 0, 0, []), (77, .aload_n 0, 1, 0, 0, []), (78, .getfield 16, 3, 0, 0, []), (81, .getfield 79, 3, 0, 0, []), (84, .iload_n 2, 1, 0, 0, []), (85, .iload 5, 2, 0, 0, []), (87, .iastore, 1, 0, 0, []), (88, .iload 5, 2, 0, 0, []), (90, .iload 4, 2, 0, 0, []), (92, .if_icmp .eq 7, 3, 99, 0, []), (95, .iconst 1, 1, 0, 1, [])]
def xm_71_3 : List xEn := [(96, .goto 4, 3, 100, 0, []), (99, .iconst 0, 1, 0, 0, []), (100, .ireturn, 1, 0, 0, [])]
/-- X5_contract -/
def xm_71 : xT := (5, [xm_71_0, xm_71_1, xm_71_2, xm_71_3], [(41, [], [100, 600], []), (75, [0, 2, 4], [], []), (100, [], [100, 600], [])], some .int, false, 6)
def xm_72_0 : List xEn := [(0, .iload_n 1, 1, 0, 0, []), (1, .iconst 0, 1, 0, 0, []), (2, .iconst 4, 1, 0, 4, []), (3, .invokestatic 51, 3, 0, 0, []), (6, .ifCond .eq 16, 3, 22, 0, []), (9, .iload_n 2, 1, 0, 0, []), (10, .iconst 0, 1, 0, 0, []), (11, .getstatic 104, 3, 0, 0, []), (14, .iload_n 1, 1, 0, 0, []), (15, .iaload, 1, 0, 0, []), (16, .invokestatic 51, 3, 0, 0, []), (19, .ifCond .ne 9, 3, 28, 0, []), (22, .aload_n 0, 1, 0, 0, []), (23, .iconst 0, 1, 0, 0, []), (24, .invokevirtual 55, 3, 0, 0, []), (27, .ireturn, 1, 0, 0, []), (28, .aload_n 0, 1, 0, 0, []), (29, .getfield 16, 3, 0, 0, [])]
def xm_72_1 : List xEn := [(32, .getfield 107, 3, 0, 0, []), (35, .iload_n 1, 1, 0, 0, []), (36, .iload_n 2, 1, 0, 0, []), (37, .invokestatic 96, 3, 0, 0, []), (40, .ireturn, 1, 0, 0, [])]
/-- X5_rule -/
def xm_72 : xT := (5, [xm_72_0, xm_72_1], [(27, [], [100, 700], []), (40, [], [100, 700], [])], some .int, false, 3)
def xm_73_0 : List xEn := [(0, .aload_n 0, 1, 0, 0, []), (1, .getfield 16, 3, 0, 0, []), (4, .iload_n 1, 1, 0, 0, []), (5, .invokevirtual 66, 3, 0, 0, []), (8, .ifCond .eq 14, 3, 22, 0, []), (11, .iload_n 2, 1, 0, 0, []), (12, .iconst 0, 1, 0, 0, []), (13, .sipush 999, 3, 0, 999, []), (16, .invokestatic 51, 3, 0, 0, []), (19, .ifCond .ne 9, 3, 28, 0, []), (22, .aload_n 0, 1, 0, 0, []), (23, .iconst 0, 1, 0, 0, []), (24, .invokevirtual 55, 3, 0, 0, []), (27, .ireturn, 1, 0, 0, []), (28, .aload_n 0, 1, 0, 0, []), (29, .getfield 16, 3, 0, 0, [])]
def xm_73_1 : List xEn := [(32, .iload_n 1, 1, 0, 0, []), (33, .iload_n 2, 1, 0, 0, []), (34, .invokevirtual 92, 3, 0, 0, []), (37, .ireturn, 1, 0, 0, [])]
/-- X5_noise -/
def xm_73 : xT := (5, [xm_73_0, xm_73_1], [(37, [], [100], [])], some .int, false, 3)
def xm_74_0 : List xEn := [(0, .aload_n 0, 1, 0, 0, []), (1, .getfield 16, 3, 0, 0, []), (4, .iload_n 1, 1, 0, 0, []), (5, .invokevirtual 66, 3, 0, 0, []), (8, .ifCond .ne 9, 3, 17, 0, []), (11, .aload_n 0, 1, 0, 0, []), (12, .iconst 0, 1, 0, 0, []), (13, .invokevirtual 55, 3, 0, 0, []), (16, .ireturn, 1, 0, 0, []), (17, .aload_n 0, 1, 0, 0, []), (18, .getfield 16, 3, 0, 0, []), (21, .iload_n 1, 1, 0, 0, []), (22, .aload_n 0, 1, 0, 0, []), (23, .getfield 16, 3, 0, 0, []), (26, .getfield 110, 3, 0, 0, []), (29, .invokevirtual 113, 3, 0, 0, [])]
def xm_74_1 : List xEn := [(32, .ifCond .ne 9, 3, 41, 0, []), (35, .aload_n 0, 1, 0, 0, []), (36, .iconst 4, 1, 0, 4, []), (37, .invokevirtual 55, 3, 0, 0, []), (40, .ireturn, 1, 0, 0, []), (41, .aload_n 0, 1, 0, 0, []), (42, .getfield 16, 3, 0, 0, []), (45, .iload_n 1, 1, 0, 0, []), (46, .invokevirtual 116, 3, 0, 0, []), (49, .ireturn, 1, 0, 0, [])]
/-- X5_come -/
def xm_74 : xT := (5, [xm_74_0, xm_74_1], [(16, [], [100, 207, 208, 209, 210, 800, 900, 1000], []), (40, [], [100, 207, 208, 209, 210, 800, 900, 1000], []), (49, [], [100, 207, 208, 209, 210, 800, 900, 1000], [])], some .int, false, 2)
def xm_75_0 : List xEn := [(0, .aload_n 0, 1, 0, 0, []), (1, .getfield 16, 3, 0, 0, []), (4, .getfield 119, 3, 0, 0, []), (7, .ifCond .ne 9, 3, 16, 0, []), (10, .aload_n 0, 1, 0, 0, []), (11, .iconst 3, 1, 0, 3, []), (12, .invokevirtual 55, 3, 0, 0, []), (15, .ireturn, 1, 0, 0, []), (16, .aload_n 0, 1, 0, 0, []), (17, .getfield 16, 3, 0, 0, []), (20, .invokevirtual 122, 3, 0, 0, []), (23, .ireturn, 1, 0, 0, [])]
/-- X5_back -/
def xm_75 : xT := (5, [xm_75_0], [(15, [], [100, 207, 208, 209, 210], []), (23, [], [100, 207, 208, 209, 210], [])], some .int, false, 1)
def xm_76_0 : List xEn := [(0, .aload_n 0, 1, 0, 0, []), (1, .getfield 16, 3, 0, 0, []), (4, .getfield 119, 3, 0, 0, []), (7, .istore_n 1, 1, 0, 0, []), (8, .aload_n 0, 1, 0, 0, []), (9, .getfield 16, 3, 0, 0, []), (12, .invokevirtual 125, 3, 0, 0, []), (15, .iload_n 1, 1, 0, 0, []), (16, .ireturn, 1, 0, 0, [])]
/-- X5_clear -/
def xm_76 : xT := (5, [xm_76_0], [], some .int, false, 2)
def xm_77_0 : List xEn := [(0, .iload_n 1, 1, 0, 0, []), (1, .ifCond .ge 9, 3, 10, 0, []), (4, .aload_n 0, 1, 0, 0, []), (5, .iconst 0, 1, 0, 0, []), (6, .invokevirtual 55, 3, 0, 0, []), (9, .ireturn, 1, 0, 0, []), (10, .iload_n 1, 1, 0, 0, []), (11, .aload_n 0, 1, 0, 0, []), (12, .getfield 16, 3, 0, 0, []), (15, .getfield 119, 3, 0, 0, []), (18, .if_icmp .lt 9, 3, 27, 0, []), (21, .aload_n 0, 1, 0, 0, []), (22, .iconst 3, 1, 0, 3, []), (23, .invokevirtual 55, 3, 0, 0, []), (26, .ireturn, 1, 0, 0, []), (27, .aload_n 0, 1, 0, 0, []), (28, .getfield 16, 3, 0, 0, []), (31, .getfield 128, 3, 0, 0, [])]
def xm_77_1 : List xEn := [(34, .iload_n 1, 1, 0, 0, []), (35, .iaload, 1, 0, 0, []), (36, .ireturn, 1, 0, 0, [])]
/-- X5_stood -/
def xm_77 : xT := (5, [xm_77_0, xm_77_1], [(36, [], [100], [])], some .int, false, 2)
def xm_78_0 : List xEn := [(0, .iload_n 1, 1, 0, 0, []), (1, .tableswitch 87 0 5 #[39, 47, 55, 63, 71, 79], 39, 88, 0, [(0, 40), (1, 48), (2, 56), (3, 64), (4, 72), (5, 80)])]
def xm_78_1 : List xEn := [(40, .aload_n 0, 1, 0, 0, []), (41, .getfield 16, 3, 0, 0, []), (44, .getfield 119, 3, 0, 0, []), (47, .ireturn, 1, 0, 0, []), (48, .aload_n 0, 1, 0, 0, []), (49, .getfield 16, 3, 0, 0, []), (52, .getfield 131, 3, 0, 0, []), (55, .ireturn, 1, 0, 0, []), (56, .aload_n 0, 1, 0, 0, []), (57, .getfield 16, 3, 0, 0, []), (60, .getfield 134, 3, 0, 0, []), (63, .ireturn, 1, 0, 0, [])]
def xm_78_2 : List xEn := [(64, .aload_n 0, 1, 0, 0, []), (65, .getfield 16, 3, 0, 0, []), (68, .getfield 110, 3, 0, 0, []), (71, .ireturn, 1, 0, 0, []), (72, .aload_n 0, 1, 0, 0, []), (73, .getfield 16, 3, 0, 0, []), (76, .invokevirtual 137, 3, 0, 0, []), (79, .ireturn, 1, 0, 0, []), (80, .aload_n 0, 1, 0, 0, []), (81, .getfield 16, 3, 0, 0, []), (84, .invokevirtual 140, 3, 0, 0, []), (87, .ireturn, 1, 0, 0, []), (88, .aload_n 0, 1, 0, 0, []), (89, .iconst 0, 1, 0, 0, []), (90, .invokevirtual 55, 3, 0, 0, []), (93, .ireturn, 1, 0, 0, [])]
/-- X5_now -/
def xm_78 : xT := (5, [xm_78_0, xm_78_1, xm_78_2], [(47, [], [100], []), (55, [], [100], []), (63, [], [100], []), (71, [], [100], []), (79, [], [100], []), (87, [], [100], [])], some .int, false, 2)
def xm_79_0 : List xEn := [(0, .iload_n 1, 1, 0, 0, []), (1, .iconst 0, 1, 0, 0, []), (2, .iconst 1, 1, 0, 1, []), (3, .invokestatic 51, 3, 0, 0, []), (6, .ifCond .ne 9, 3, 15, 0, []), (9, .aload_n 0, 1, 0, 0, []), (10, .iconst 0, 1, 0, 0, []), (11, .invokevirtual 55, 3, 0, 0, []), (14, .ireturn, 1, 0, 0, []), (15, .aload_n 0, 1, 0, 0, []), (16, .getfield 29, 3, 0, 0, []), (19, .aload_n 0, 1, 0, 0, []), (20, .getfield 16, 3, 0, 0, []), (23, .invokevirtual 143, 3, 0, 0, []), (26, .aload_n 0, 1, 0, 0, []), (27, .getfield 29, 3, 0, 0, []), (30, .invokevirtual 147, 3, 0, 0, [])]
def xm_79_1 : List xEn := [(33, .ifCond .ne 9, 3, 42, 0, []), (36, .aload_n 0, 1, 0, 0, []), (37, .iconst 3, 1, 0, 3, []), (38, .invokevirtual 55, 3, 0, 0, []), (41, .ireturn, 1, 0, 0, []), (42, .aload_n 0, 1, 0, 0, []), (43, .getfield 29, 3, 0, 0, []), (46, .iload_n 1, 1, 0, 0, []), (47, .invokevirtual 151, 3, 0, 0, []), (50, .istore_n 2, 1, 0, 0, []), (51, .iload_n 1, 1, 0, 0, []), (52, .iconst 1, 1, 0, 1, []), (53, .if_icmp .ne 8, 3, 61, 0, []), (56, .iload_n 2, 1, 0, 0, []), (57, .ineg, 1, 0, 0, []), (58, .goto 4, 3, 62, 0, []), (61, .iload_n 2, 1, 0, 0, []), (62, .ireturn, 1, 0, 0, [])]
/-- X5_best -/
def xm_79 : xT := (5, [xm_79_0, xm_79_1], [(14, [], [100, 3208, 3211, 3212, 3213, 3214, 3300, 3400, 3500, 3600, 3700, 3800, 3900], []), (41, [], [100, 3208, 3211, 3212, 3213, 3214, 3300, 3400, 3500, 3600, 3700, 3800, 3900], []), (62, [], [100, 3208, 3211, 3212, 3213, 3214, 3300, 3400, 3500, 3600, 3700, 3800, 3900], [])], some .int, false, 3)
def xm_80_0 : List xEn := [(0, .iload_n 1, 1, 0, 0, []), (1, .iconst 0, 1, 0, 0, []), (2, .iconst 1, 1, 0, 1, []), (3, .invokestatic 51, 3, 0, 0, []), (6, .ifCond .eq 7, 3, 13, 0, []), (9, .iload_n 2, 1, 0, 0, []), (10, .ifCond .ge 9, 3, 19, 0, []), (13, .aload_n 0, 1, 0, 0, []), (14, .iconst 0, 1, 0, 0, []), (15, .invokevirtual 55, 3, 0, 0, []), (18, .ireturn, 1, 0, 0, []), (19, .aload_n 0, 1, 0, 0, []), (20, .getfield 29, 3, 0, 0, []), (23, .aload_n 0, 1, 0, 0, []), (24, .getfield 16, 3, 0, 0, []), (27, .invokevirtual 143, 3, 0, 0, []), (30, .iload_n 2, 1, 0, 0, []), (31, .aload_n 0, 1, 0, 0, [])]
def xm_80_1 : List xEn := [(32, .getfield 29, 3, 0, 0, []), (35, .invokevirtual 154, 3, 0, 0, []), (38, .if_icmp .ge 13, 3, 51, 0, []), (41, .aload_n 0, 1, 0, 0, []), (42, .getfield 29, 3, 0, 0, []), (45, .invokevirtual 147, 3, 0, 0, []), (48, .ifCond .ne 9, 3, 57, 0, []), (51, .aload_n 0, 1, 0, 0, []), (52, .iconst 3, 1, 0, 3, []), (53, .invokevirtual 55, 3, 0, 0, []), (56, .ireturn, 1, 0, 0, []), (57, .aload_n 0, 1, 0, 0, []), (58, .getfield 29, 3, 0, 0, []), (61, .iload_n 1, 1, 0, 0, []), (62, .invokevirtual 157, 3, 0, 0, [])]
def xm_80_2 : List xEn := [(65, .aload_n 0, 1, 0, 0, []), (66, .getfield 29, 3, 0, 0, []), (69, .getfield 161, 3, 0, 0, []), (72, .iload_n 2, 1, 0, 0, []), (73, .iaload, 1, 0, 0, []), (74, .ireturn, 1, 0, 0, [])]
/-- X5_ith -/
def xm_80 : xT := (5, [xm_80_0, xm_80_1, xm_80_2], [(18, [], [100, 3208, 3211, 3212, 3213, 3214, 3300, 3400, 3500, 3600, 3700, 3800, 3900, 4100], []), (56, [], [100, 3208, 3211, 3212, 3213, 3214, 3300, 3400, 3500, 3600, 3700, 3800, 3900, 4100], []), (74, [], [100, 3208, 3211, 3212, 3213, 3214, 3300, 3400, 3500, 3600, 3700, 3800, 3900, 4100], [])], some .int, false, 3)
def xm_81_0 : List xEn := [(0, .aload_n 0, 1, 0, 0, []), (1, .getfield 29, 3, 0, 0, []), (4, .aload_n 0, 1, 0, 0, []), (5, .getfield 16, 3, 0, 0, []), (8, .invokevirtual 143, 3, 0, 0, []), (11, .aload_n 0, 1, 0, 0, []), (12, .getfield 29, 3, 0, 0, []), (15, .invokevirtual 164, 3, 0, 0, []), (18, .ireturn, 1, 0, 0, [])]
/-- X5_ways -/
def xm_81 : xT := (5, [xm_81_0], [], some .int, false, 1)
def xm_82_0 : List xEn := [(0, .aload_n 0, 1, 0, 0, []), (1, .getfield 29, 3, 0, 0, []), (4, .aload_n 0, 1, 0, 0, []), (5, .getfield 16, 3, 0, 0, []), (8, .invokevirtual 143, 3, 0, 0, []), (11, .aload_n 0, 1, 0, 0, []), (12, .getfield 29, 3, 0, 0, []), (15, .invokevirtual 147, 3, 0, 0, []), (18, .ifCond .eq 13, 3, 31, 0, []), (21, .aload_n 0, 1, 0, 0, []), (22, .getfield 29, 3, 0, 0, []), (25, .invokevirtual 167, 3, 0, 0, []), (28, .goto 4, 3, 32, 0, []), (31, .iconst 0, 1, 0, 0, [])]
def xm_82_1 : List xEn := [(32, .ireturn, 1, 0, 0, [])]
/-- X5_lasts -/
def xm_82 : xT := (5, [xm_82_0, xm_82_1], [], some .int, false, 1)
def xm_83_0 : List xEn := [(0, .aload_n 0, 1, 0, 0, []), (1, .getfield 16, 3, 0, 0, []), (4, .iload_n 1, 1, 0, 0, []), (5, .invokevirtual 66, 3, 0, 0, []), (8, .ifCond .eq 12, 3, 20, 0, []), (11, .iload_n 2, 1, 0, 0, []), (12, .iconst 0, 1, 0, 0, []), (13, .iconst 1, 1, 0, 1, []), (14, .invokestatic 51, 3, 0, 0, []), (17, .ifCond .ne 9, 3, 26, 0, []), (20, .aload_n 0, 1, 0, 0, []), (21, .iconst 0, 1, 0, 0, []), (22, .invokevirtual 55, 3, 0, 0, []), (25, .ireturn, 1, 0, 0, []), (26, .aload_n 0, 1, 0, 0, []), (27, .getfield 16, 3, 0, 0, []), (30, .iload_n 1, 1, 0, 0, []), (31, .invokevirtual 170, 3, 0, 0, [])]
def xm_83_1 : List xEn := [(34, .ifCond .eq 9, 3, 43, 0, []), (37, .aload_n 0, 1, 0, 0, []), (38, .iconst 4, 1, 0, 4, []), (39, .invokevirtual 55, 3, 0, 0, []), (42, .ireturn, 1, 0, 0, []), (43, .aload_n 0, 1, 0, 0, []), (44, .getfield 29, 3, 0, 0, []), (47, .aload_n 0, 1, 0, 0, []), (48, .getfield 16, 3, 0, 0, []), (51, .invokevirtual 143, 3, 0, 0, []), (54, .aload_n 0, 1, 0, 0, []), (55, .getfield 29, 3, 0, 0, []), (58, .invokevirtual 147, 3, 0, 0, []), (61, .ifCond .ne 9, 3, 70, 0, [])]
def xm_83_2 : List xEn := [(64, .aload_n 0, 1, 0, 0, []), (65, .iconst 3, 1, 0, 3, []), (66, .invokevirtual 55, 3, 0, 0, []), (69, .ireturn, 1, 0, 0, []), (70, .iload_n 2, 1, 0, 0, []), (71, .ifCond .ne 14, 3, 85, 0, []), (74, .aload_n 0, 1, 0, 0, []), (75, .getfield 29, 3, 0, 0, []), (78, .iload_n 1, 1, 0, 0, []), (79, .invokevirtual 173, 3, 0, 0, []), (82, .goto 11, 3, 93, 0, []), (85, .aload_n 0, 1, 0, 0, []), (86, .getfield 29, 3, 0, 0, []), (89, .iload_n 1, 1, 0, 0, []), (90, .invokevirtual 176, 3, 0, 0, []), (93, .ireturn, 1, 0, 0, [])]
/-- X5_place -/
def xm_83 : xT := (5, [xm_83_0, xm_83_1, xm_83_2], [(25, [], [100, 3211, 3212, 3213, 3214, 3300, 3400, 3500], []), (42, [], [100, 3211, 3212, 3213, 3214, 3300, 3400, 3500], []), (93, [], [100, 3211, 3212, 3213, 3214, 3300, 3400, 3500], [])], some .int, false, 3)
def xm_84_0 : List xEn := [(0, .aload_n 0, 1, 0, 0, []), (1, .getfield 16, 3, 0, 0, []), (4, .iload_n 1, 1, 0, 0, []), (5, .invokevirtual 66, 3, 0, 0, []), (8, .ifCond .ne 9, 3, 17, 0, []), (11, .aload_n 0, 1, 0, 0, []), (12, .iconst 0, 1, 0, 0, []), (13, .invokevirtual 55, 3, 0, 0, []), (16, .ireturn, 1, 0, 0, []), (17, .aload_n 0, 1, 0, 0, []), (18, .getfield 29, 3, 0, 0, []), (21, .aload_n 0, 1, 0, 0, []), (22, .getfield 16, 3, 0, 0, []), (25, .invokevirtual 143, 3, 0, 0, []), (28, .aload_n 0, 1, 0, 0, []), (29, .getfield 29, 3, 0, 0, [])]
def xm_84_1 : List xEn := [(32, .iload_n 1, 1, 0, 0, []), (33, .aload_n 0, 1, 0, 0, []), (34, .getfield 29, 3, 0, 0, []), (37, .getfield 179, 3, 0, 0, []), (40, .invokevirtual 182, 3, 0, 0, []), (43, .ireturn, 1, 0, 0, [])]
/-- X5_all -/
def xm_84 : xT := (5, [xm_84_0, xm_84_1], [(16, [], [100, 3211, 3212, 3213, 3214, 3300, 3400, 3500], []), (43, [], [100, 3211, 3212, 3213, 3214, 3300, 3400, 3500], [])], some .int, false, 2)
def xm_85_0 : List xEn := [(0, .aload_n 0, 1, 0, 0, []), (1, .getfield 29, 3, 0, 0, []), (4, .aload_n 0, 1, 0, 0, []), (5, .getfield 16, 3, 0, 0, []), (8, .invokevirtual 143, 3, 0, 0, []), (11, .iconst 0, 1, 0, 0, []), (12, .istore_n 1, 1, 0, 0, []), (13, .iconst 0, 1, 0, 0, []), (14, .istore_n 2, 1, 0, 0, []), (15, .iload_n 2, 1, 0, 0, []), (16, .aload_n 0, 1, 0, 0, []), (17, .getfield 16, 3, 0, 0, []), (20, .getfield 59, 3, 0, 0, []), (23, .if_icmp .ge 31, 3, 54, 0, []), (26, .iload_n 1, 1, 0, 0, []), (27, .aload_n 0, 1, 0, 0, []), (28, .getfield 29, 3, 0, 0, []), (31, .iload_n 2, 1, 0, 0, [])]
def xm_85_1 : List xEn := [(32, .aload_n 0, 1, 0, 0, []), (33, .getfield 29, 3, 0, 0, []), (36, .getfield 179, 3, 0, 0, []), (39, .invokevirtual 182, 3, 0, 0, []), (42, .iconst 1, 1, 0, 1, []), (43, .iload_n 2, 1, 0, 0, []), (44, .ishl, 1, 0, 0, []), (45, .iand, 1, 0, 0, []), (46, .ior, 1, 0, 0, []), (47, .istore_n 1, 1, 0, 0, []), (48, .iinc 2 1, 3, 0, 1, []), (51, .goto (-36), 3, 15, 0, []), (54, .iload_n 1, 1, 0, 0, []), (55, .ireturn, 1, 0, 0, [])]
/-- X5_clash -/
def xm_85 : xT := (5, [xm_85_0, xm_85_1], [(15, [0, 1, 2], [3211, 3212, 3213, 3214, 3300, 3400, 3500], [])], some .int, false, 3)
def xm_86_0 : List xEn := [(0, .aload_n 0, 1, 0, 0, []), (1, .getfield 29, 3, 0, 0, []), (4, .aload_n 0, 1, 0, 0, []), (5, .getfield 16, 3, 0, 0, []), (8, .invokevirtual 143, 3, 0, 0, []), (11, .aload_n 0, 1, 0, 0, []), (12, .getfield 29, 3, 0, 0, []), (15, .invokevirtual 185, 3, 0, 0, []), (18, .ireturn, 1, 0, 0, [])]
/-- X5_broken -/
def xm_86 : xT := (5, [xm_86_0], [], some .int, false, 1)
def xm_87_0 : List xEn := [(0, .aload_n 0, 1, 0, 0, []), (1, .getfield 16, 3, 0, 0, []), (4, .iload_n 1, 1, 0, 0, []), (5, .invokevirtual 66, 3, 0, 0, []), (8, .ifCond .eq 19, 3, 27, 0, []), (11, .aload_n 0, 1, 0, 0, []), (12, .getfield 16, 3, 0, 0, []), (15, .iload_n 2, 1, 0, 0, []), (16, .invokevirtual 66, 3, 0, 0, []), (19, .ifCond .eq 8, 3, 27, 0, []), (22, .iload_n 1, 1, 0, 0, []), (23, .iload_n 2, 1, 0, 0, []), (24, .if_icmp .ne 9, 3, 33, 0, []), (27, .aload_n 0, 1, 0, 0, []), (28, .iconst 0, 1, 0, 0, []), (29, .invokevirtual 55, 3, 0, 0, [])]
def xm_87_1 : List xEn := [(32, .ireturn, 1, 0, 0, []), (33, .aload_n 0, 1, 0, 0, []), (34, .getfield 16, 3, 0, 0, []), (37, .getfield 59, 3, 0, 0, []), (40, .iconst 2, 1, 0, 2, []), (41, .if_icmp .ne 9, 3, 50, 0, []), (44, .aload_n 0, 1, 0, 0, []), (45, .iconst 3, 1, 0, 3, []), (46, .invokevirtual 55, 3, 0, 0, []), (49, .ireturn, 1, 0, 0, []), (50, .iconst (-1), 1, 0, (-1), []), (51, .istore_n 3, 1, 0, 0, []), (52, .iconst (-1), 1, 0, (-1), []), (53, .istore 4, 2, 0, 0, []), (55, .iconst 0, 1, 0, 0, []), (56, .istore 5, 2, 0, 0, []), (58, .iload 5, 2, 0, 0, []), (60, .aload_n 0, 1, 0, 0, []), (61, .getfield 16, 3, 0, 0, [])]
def xm_87_2 : List xEn := [(64, .getfield 59, 3, 0, 0, []), (67, .if_icmp .ge 71, 3, 138, 0, []), (70, .iload 5, 2, 0, 0, []), (72, .iload_n 1, 1, 0, 0, []), (73, .if_icmp .eq 59, 3, 132, 0, []), (76, .iload 5, 2, 0, 0, []), (78, .iload_n 2, 1, 0, 0, []), (79, .if_icmp .eq 53, 3, 132, 0, []), (82, .aload_n 0, 1, 0, 0, []), (83, .getfield 16, 3, 0, 0, []), (86, .iload 5, 2, 0, 0, []), (88, .aload_n 0, 1, 0, 0, []), (89, .getfield 16, 3, 0, 0, []), (92, .iload_n 1, 1, 0, 0, []), (93, .invokevirtual 82, 3, 0, 0, [])]
def xm_87_3 : List xEn := [(96, .invokevirtual 92, 3, 0, 0, []), (99, .aload_n 0, 1, 0, 0, []), (100, .getfield 16, 3, 0, 0, []), (103, .iload_n 2, 1, 0, 0, []), (104, .aload_n 0, 1, 0, 0, []), (105, .getfield 16, 3, 0, 0, []), (108, .iload 5, 2, 0, 0, []), (110, .invokevirtual 82, 3, 0, 0, []), (113, .invokevirtual 92, 3, 0, 0, []), (116, .iadd, 1, 0, 0, []), (117, .istore 6, 2, 0, 0, []), (119, .iload 6, 2, 0, 0, []), (121, .iload_n 3, 1, 0, 0, []), (122, .if_icmp .le 10, 3, 132, 0, []), (125, .iload 6, 2, 0, 0, []), (127, .istore_n 3, 1, 0, 0, [])]
def xm_87_4 : List xEn := [(128, .iload 5, 2, 0, 0, []), (130, .istore 4, 2, 0, 0, []), (132, .iinc 5 1, 3, 0, 1, []), (135, .goto (-77), 3, 58, 0, []), (138, .iload 4, 2, 0, 0, []), (140, .ireturn, 1, 0, 0, [])]
/-- X5_between -/
def xm_87 : xT := (5, [xm_87_0, xm_87_1, xm_87_2, xm_87_3, xm_87_4], [(58, [0, 1, 2, 3, 4, 5], [], []), (140, [], [100], [])], some .int, false, 7)
def xm_88_0 : List xEn := [(0, .aload_n 0, 1, 0, 0, []), (1, .getfield 16, 3, 0, 0, []), (4, .iload_n 1, 1, 0, 0, []), (5, .invokevirtual 66, 3, 0, 0, []), (8, .ifCond .ne 9, 3, 17, 0, []), (11, .aload_n 0, 1, 0, 0, []), (12, .iconst 0, 1, 0, 0, []), (13, .invokevirtual 55, 3, 0, 0, []), (16, .ireturn, 1, 0, 0, []), (17, .aload_n 0, 1, 0, 0, []), (18, .getfield 29, 3, 0, 0, []), (21, .aload_n 0, 1, 0, 0, []), (22, .getfield 16, 3, 0, 0, []), (25, .invokevirtual 143, 3, 0, 0, []), (28, .aload_n 0, 1, 0, 0, []), (29, .getfield 29, 3, 0, 0, [])]
def xm_88_1 : List xEn := [(32, .invokevirtual 147, 3, 0, 0, []), (35, .ifCond .ne 9, 3, 44, 0, []), (38, .aload_n 0, 1, 0, 0, []), (39, .iconst 3, 1, 0, 3, []), (40, .invokevirtual 55, 3, 0, 0, []), (43, .ireturn, 1, 0, 0, []), (44, .aload_n 0, 1, 0, 0, []), (45, .getfield 29, 3, 0, 0, []), (48, .iload_n 1, 1, 0, 0, []), (49, .invokevirtual 188, 3, 0, 0, []), (52, .ireturn, 1, 0, 0, [])]
/-- X5_kindFor -/
def xm_88 : xT := (5, [xm_88_0, xm_88_1], [(16, [], [100, 3208, 3211, 3212, 3213, 3214, 3300, 3400, 3500, 3600, 3700, 3800, 3900], []), (43, [], [100, 3208, 3211, 3212, 3213, 3214, 3300, 3400, 3500, 3600, 3700, 3800, 3900], []), (52, [], [100, 3208, 3211, 3212, 3213, 3214, 3300, 3400, 3500, 3600, 3700, 3800, 3900], [])], some .int, false, 2)
def xm_89_0 : List xEn := [(0, .aload_n 0, 1, 0, 0, []), (1, .getfield 29, 3, 0, 0, []), (4, .aload_n 0, 1, 0, 0, []), (5, .getfield 16, 3, 0, 0, []), (8, .invokevirtual 143, 3, 0, 0, []), (11, .aload_n 0, 1, 0, 0, []), (12, .getfield 29, 3, 0, 0, []), (15, .invokevirtual 191, 3, 0, 0, []), (18, .ifCond .eq 13, 3, 31, 0, []), (21, .aload_n 0, 1, 0, 0, []), (22, .getfield 29, 3, 0, 0, []), (25, .getfield 194, 3, 0, 0, []), (28, .goto 8, 3, 36, 0, []), (31, .aload_n 0, 1, 0, 0, [])]
def xm_89_1 : List xEn := [(32, .iconst 3, 1, 0, 3, []), (33, .invokevirtual 55, 3, 0, 0, []), (36, .ireturn, 1, 0, 0, [])]
/-- X5_freed -/
def xm_89 : xT := (5, [xm_89_0, xm_89_1], [(36, [], [100, 3208, 3211, 3212, 3213, 3214, 3215, 3216, 3300, 3400, 3500, 3600, 3700, 3800, 3900], [])], some .int, false, 1)
def xm_90_0 : List xEn := [(0, .aload_n 0, 1, 0, 0, []), (1, .getfield 29, 3, 0, 0, []), (4, .aload_n 0, 1, 0, 0, []), (5, .getfield 16, 3, 0, 0, []), (8, .invokevirtual 143, 3, 0, 0, []), (11, .aload_n 0, 1, 0, 0, []), (12, .getfield 29, 3, 0, 0, []), (15, .invokevirtual 191, 3, 0, 0, []), (18, .ifCond .eq 13, 3, 31, 0, []), (21, .aload_n 0, 1, 0, 0, []), (22, .getfield 29, 3, 0, 0, []), (25, .getfield 197, 3, 0, 0, []), (28, .goto 8, 3, 36, 0, []), (31, .aload_n 0, 1, 0, 0, [])]
def xm_90_1 : List xEn := [(32, .iconst 3, 1, 0, 3, []), (33, .invokevirtual 55, 3, 0, 0, []), (36, .ireturn, 1, 0, 0, [])]
/-- X5_free -/
def xm_90 : xT := (5, [xm_90_0, xm_90_1], [(36, [], [100, 3208, 3211, 3212, 3213, 3214, 3215, 3216, 3300, 3400, 3500, 3600, 3700, 3800, 3900], [])], some .int, false, 1)
def xm_91_0 : List xEn := [(0, .aload_n 0, 1, 0, 0, []), (1, .getfield 29, 3, 0, 0, []), (4, .aload_n 0, 1, 0, 0, []), (5, .getfield 16, 3, 0, 0, []), (8, .invokevirtual 143, 3, 0, 0, []), (11, .aload_n 0, 1, 0, 0, []), (12, .getfield 29, 3, 0, 0, []), (15, .invokevirtual 147, 3, 0, 0, []), (18, .ifCond .ne 9, 3, 27, 0, []), (21, .aload_n 0, 1, 0, 0, []), (22, .iconst 3, 1, 0, 3, []), (23, .invokevirtual 55, 3, 0, 0, []), (26, .ireturn, 1, 0, 0, []), (27, .aload_n 0, 1, 0, 0, []), (28, .getfield 29, 3, 0, 0, []), (31, .iconst 0, 1, 0, 0, [])]
def xm_91_1 : List xEn := [(32, .invokevirtual 157, 3, 0, 0, []), (35, .aload_n 0, 1, 0, 0, []), (36, .getfield 16, 3, 0, 0, []), (39, .getfield 134, 3, 0, 0, []), (42, .istore_n 1, 1, 0, 0, []), (43, .iconst 0, 1, 0, 0, []), (44, .istore_n 2, 1, 0, 0, []), (45, .iconst 0, 1, 0, 0, []), (46, .istore_n 3, 1, 0, 0, []), (47, .iload_n 3, 1, 0, 0, []), (48, .aload_n 0, 1, 0, 0, []), (49, .getfield 29, 3, 0, 0, []), (52, .invokevirtual 154, 3, 0, 0, []), (55, .if_icmp .ge 44, 3, 99, 0, []), (58, .iload_n 1, 1, 0, 0, []), (59, .aload_n 0, 1, 0, 0, []), (60, .getfield 16, 3, 0, 0, []), (63, .aload_n 0, 1, 0, 0, [])]
def xm_91_2 : List xEn := [(64, .getfield 29, 3, 0, 0, []), (67, .getfield 161, 3, 0, 0, []), (70, .iload_n 3, 1, 0, 0, []), (71, .iaload, 1, 0, 0, []), (72, .invokevirtual 85, 3, 0, 0, []), (75, .iadd, 1, 0, 0, []), (76, .istore_n 1, 1, 0, 0, []), (77, .iload_n 1, 1, 0, 0, []), (78, .aload_n 0, 1, 0, 0, []), (79, .getfield 16, 3, 0, 0, []), (82, .getfield 107, 3, 0, 0, []), (85, .iconst 4, 1, 0, 4, []), (86, .iaload, 1, 0, 0, []), (87, .if_icmp .gt 6, 3, 93, 0, []), (90, .iinc 2 1, 3, 0, 1, []), (93, .iinc 3 1, 3, 0, 1, [])]
def xm_91_3 : List xEn := [(96, .goto (-49), 3, 47, 0, []), (99, .iload_n 2, 1, 0, 0, []), (100, .ireturn, 1, 0, 0, [])]
/-- X5_train -/
def xm_91 : xT := (5, [xm_91_0, xm_91_1, xm_91_2, xm_91_3], [(26, [], [100, 3208, 3211, 3212, 3213, 3214, 3300, 3400, 3500, 3600, 3700, 3800, 3900, 4100], []), (47, [0, 1, 2, 3], [3208, 3211, 3212, 3213, 3214, 3300, 3400, 3500, 3600, 3700, 3800, 3900, 4100], []), (100, [], [100, 3208, 3211, 3212, 3213, 3214, 3300, 3400, 3500, 3600, 3700, 3800, 3900, 4100], [])], some .int, false, 4)
def xm_92_0 : List xEn := [(0, .aload_n 0, 1, 0, 0, []), (1, .getfield 16, 3, 0, 0, []), (4, .iload_n 1, 1, 0, 0, []), (5, .invokevirtual 66, 3, 0, 0, []), (8, .ifCond .eq 14, 3, 22, 0, []), (11, .iload_n 2, 1, 0, 0, []), (12, .iconst 0, 1, 0, 0, []), (13, .sipush 999, 3, 0, 999, []), (16, .invokestatic 51, 3, 0, 0, []), (19, .ifCond .ne 9, 3, 28, 0, []), (22, .aload_n 0, 1, 0, 0, []), (23, .iconst 0, 1, 0, 0, []), (24, .invokevirtual 55, 3, 0, 0, []), (27, .ireturn, 1, 0, 0, []), (28, .iconst 0, 1, 0, 0, []), (29, .istore 4, 2, 0, 0, []), (31, .iconst 0, 1, 0, 0, [])]
def xm_92_1 : List xEn := [(32, .istore 5, 2, 0, 0, []), (34, .iload 5, 2, 0, 0, []), (36, .bipush 99, 2, 0, 99, []), (38, .if_icmp .gt 31, 3, 69, 0, []), (41, .aload_n 0, 1, 0, 0, []), (42, .getfield 16, 3, 0, 0, []), (45, .getfield 70, 3, 0, 0, []), (48, .iload_n 1, 1, 0, 0, []), (49, .iaload, 1, 0, 0, []), (50, .iload 5, 2, 0, 0, []), (52, .iload_n 2, 1, 0, 0, []), (53, .invokestatic 200, 3, 0, 0, []), (56, .iload_n 3, 1, 0, 0, []), (57, .if_icmp .ne 6, 3, 63, 0, []), (60, .iinc 4 1, 3, 0, 1, []), (63, .iinc 5 1, 3, 0, 1, [])]
def xm_92_2 : List xEn := [(66, .goto (-32), 3, 34, 0, []), (69, .iload 4, 2, 0, 0, []), (71, .ireturn, 1, 0, 0, [])]
/-- X5_fits -/
def xm_92 : xT := (5, [xm_92_0, xm_92_1, xm_92_2], [(34, [0, 1, 2, 3, 4, 5], [], []), (71, [], [100], [])], some .int, false, 6)
def xm_93_0 : List xEn := [(0, .aload_n 0, 1, 0, 0, []), (1, .getfield 16, 3, 0, 0, []), (4, .iload_n 1, 1, 0, 0, []), (5, .invokevirtual 66, 3, 0, 0, []), (8, .ifCond .eq 14, 3, 22, 0, []), (11, .iload_n 2, 1, 0, 0, []), (12, .iconst 0, 1, 0, 0, []), (13, .sipush 999, 3, 0, 999, []), (16, .invokestatic 51, 3, 0, 0, []), (19, .ifCond .ne 9, 3, 28, 0, []), (22, .aload_n 0, 1, 0, 0, []), (23, .iconst 0, 1, 0, 0, []), (24, .invokevirtual 55, 3, 0, 0, []), (27, .ireturn, 1, 0, 0, []), (28, .iconst 0, 1, 0, 0, []), (29, .istore 4, 2, 0, 0, []), (31, .iload 4, 2, 0, 0, [])]
def xm_93_1 : List xEn := [(33, .bipush 99, 2, 0, 99, []), (35, .if_icmp .gt 31, 3, 66, 0, []), (38, .aload_n 0, 1, 0, 0, []), (39, .getfield 16, 3, 0, 0, []), (42, .getfield 70, 3, 0, 0, []), (45, .iload_n 1, 1, 0, 0, []), (46, .iaload, 1, 0, 0, []), (47, .iload 4, 2, 0, 0, []), (49, .iload_n 2, 1, 0, 0, []), (50, .invokestatic 200, 3, 0, 0, []), (53, .iload_n 3, 1, 0, 0, []), (54, .if_icmp .ne 6, 3, 60, 0, []), (57, .iload 4, 2, 0, 0, []), (59, .ireturn, 1, 0, 0, []), (60, .iinc 4 1, 3, 0, 1, []), (63, .goto (-32), 3, 31, 0, [])]
def xm_93_2 : List xEn := [(66, .aload_n 0, 1, 0, 0, []), (67, .iconst 3, 1, 0, 3, []), (68, .invokevirtual 55, 3, 0, 0, []), (71, .ireturn, 1, 0, 0, [])]
/-- X5_love -/
def xm_93 : xT := (5, [xm_93_0, xm_93_1, xm_93_2], [(31, [0, 1, 2, 3, 4], [], []), (59, [], [100], [])], some .int, false, 5)
def xm_94_0 : List xEn := [(0, .iload_n 1, 1, 0, 0, []), (1, .iconst 0, 1, 0, 0, []), (2, .bipush 8, 2, 0, 8, []), (4, .invokestatic 51, 3, 0, 0, []), (7, .ifCond .eq 12, 3, 19, 0, []), (10, .iload_n 2, 1, 0, 0, []), (11, .iconst 0, 1, 0, 0, []), (12, .iconst 1, 1, 0, 1, []), (13, .invokestatic 51, 3, 0, 0, []), (16, .ifCond .ne 10, 3, 26, 0, []), (19, .aload_n 0, 1, 0, 0, []), (20, .iconst 0, 1, 0, 0, []), (21, .invokevirtual 55, 3, 0, 0, []), (24, .i2l, 1, 0, 0, []), (25, .lreturn, 1, 0, 0, []), (26, .aload_n 0, 1, 0, 0, []), (27, .iload_n 1, 1, 0, 0, []), (28, .invokevirtual 206, 3, 0, 0, []), (31, .lstore_n 3, 1, 0, 0, [])]
def xm_94_1 : List xEn := [(32, .iload_n 1, 1, 0, 0, []), (33, .invokestatic 210, 3, 0, 0, []), (36, .lstore 5, 2, 0, 0, []), (38, .iconst 0, 1, 0, 0, []), (39, .istore 7, 2, 0, 0, []), (41, .iload 7, 2, 0, 0, []), (43, .bipush 8, 2, 0, 8, []), (45, .if_icmp .ge 79, 3, 124, 0, []), (48, .lload_n 3, 1, 0, 0, []), (49, .ldc2_w 213, 3, 0, 0, []), (52, .lrem, 1, 0, 0, []), (53, .lconst 0, 1, 0, 0, []), (54, .lcmp, 1, 0, 0, []), (55, .ifCond .ne 28, 3, 83, 0, []), (58, .lload 5, 2, 0, 0, []), (60, .ldc2_w 213, 3, 0, 0, []), (63, .lrem, 1, 0, 0, [])]
def xm_94_2 : List xEn := [(64, .lconst 0, 1, 0, 0, []), (65, .lcmp, 1, 0, 0, []), (66, .ifCond .ne 17, 3, 83, 0, []), (69, .lload_n 3, 1, 0, 0, []), (70, .ldc2_w 213, 3, 0, 0, []), (73, .ldiv, 1, 0, 0, []), (74, .lstore_n 3, 1, 0, 0, []), (75, .lload 5, 2, 0, 0, []), (77, .ldc2_w 213, 3, 0, 0, []), (80, .ldiv, 1, 0, 0, []), (81, .lstore 5, 2, 0, 0, []), (83, .lload_n 3, 1, 0, 0, []), (84, .ldc2_w 215, 3, 0, 0, []), (87, .lrem, 1, 0, 0, []), (88, .lconst 0, 1, 0, 0, []), (89, .lcmp, 1, 0, 0, []), (90, .ifCond .ne 28, 3, 118, 0, []), (93, .lload 5, 2, 0, 0, []), (95, .ldc2_w 215, 3, 0, 0, [])]
def xm_94_3 : List xEn := [(98, .lrem, 1, 0, 0, []), (99, .lconst 0, 1, 0, 0, []), (100, .lcmp, 1, 0, 0, []), (101, .ifCond .ne 17, 3, 118, 0, []), (104, .lload_n 3, 1, 0, 0, []), (105, .ldc2_w 215, 3, 0, 0, []), (108, .ldiv, 1, 0, 0, []), (109, .lstore_n 3, 1, 0, 0, []), (110, .lload 5, 2, 0, 0, []), (112, .ldc2_w 215, 3, 0, 0, []), (115, .ldiv, 1, 0, 0, []), (116, .lstore 5, 2, 0, 0, []), (118, .iinc 7 1, 3, 0, 1, []), (121, .goto (-80), 3, 41, 0, []), (124, .iload_n 2, 1, 0, 0, []), (125, .ifCond .ne 7, 3, 132, 0, [])]
def xm_94_4 : List xEn := [(128, .lload_n 3, 1, 0, 0, []), (129, .goto 5, 3, 134, 0, []), (132, .lload 5, 2, 0, 0, []), (134, .lreturn, 1, 0, 0, [])]
/-- X5_curtain -/
def xm_94 : xT := (5, [xm_94_0, xm_94_1, xm_94_2, xm_94_3, xm_94_4], [(41, [2, 3, 5, 7], [], []), (83, [2, 3, 5, 7], [], []), (134, [], [100], [])], some .long, false, 8)
def xm_95_0 : List xEn := [(0, .iconst 0, 1, 0, 0, []), (1, .istore_n 1, 1, 0, 0, []), (2, .iload_n 1, 1, 0, 0, []), (3, .bipush 8, 2, 0, 8, []), (5, .if_icmp .ge 21, 3, 26, 0, []), (8, .aload_n 0, 1, 0, 0, []), (9, .iload_n 1, 1, 0, 0, []), (10, .invokevirtual 206, 3, 0, 0, []), (13, .lconst 0, 1, 0, 0, []), (14, .lcmp, 1, 0, 0, []), (15, .ifCond .ne 5, 3, 20, 0, []), (18, .iload_n 1, 1, 0, 0, []), (19, .ireturn, 1, 0, 0, []), (20, .iinc 1 1, 3, 0, 1, []), (23, .goto (-21), 3, 2, 0, []), (26, .bipush 8, 2, 0, 8, []), (28, .ireturn, 1, 0, 0, [])]
/-- X5_stop -/
def xm_95 : xT := (5, [xm_95_0], [(2, [0, 1], [], [])], some .int, false, 2)
def xm_96_0 : List xEn := [(0, .iload_n 1, 1, 0, 0, []), (1, .iconst 1, 1, 0, 1, []), (2, .bipush 8, 2, 0, 8, []), (4, .invokestatic 51, 3, 0, 0, []), (7, .ifCond .ne 9, 3, 16, 0, []), (10, .aload_n 0, 1, 0, 0, []), (11, .iconst 0, 1, 0, 0, []), (12, .invokevirtual 55, 3, 0, 0, []), (15, .ireturn, 1, 0, 0, []), (16, .iconst 0, 1, 0, 0, []), (17, .istore_n 2, 1, 0, 0, []), (18, .iconst 0, 1, 0, 0, []), (19, .istore_n 3, 1, 0, 0, []), (20, .iload_n 3, 1, 0, 0, []), (21, .iload_n 1, 1, 0, 0, []), (22, .if_icmp .ge 53, 3, 75, 0, []), (25, .aload_n 0, 1, 0, 0, []), (26, .getfield 16, 3, 0, 0, []), (29, .invokevirtual 217, 3, 0, 0, [])]
def xm_96_1 : List xEn := [(32, .bipush 10, 2, 0, 10, []), (34, .irem, 1, 0, 0, []), (35, .aload_n 0, 1, 0, 0, []), (36, .getfield 16, 3, 0, 0, []), (39, .getfield 107, 3, 0, 0, []), (42, .iconst 1, 1, 0, 1, []), (43, .iaload, 1, 0, 0, []), (44, .iload_n 3, 1, 0, 0, []), (45, .imul, 1, 0, 0, []), (46, .if_icmp .ge 15, 3, 61, 0, []), (49, .iload_n 2, 1, 0, 0, []), (50, .aload_n 0, 1, 0, 0, []), (51, .getfield 16, 3, 0, 0, []), (54, .getfield 107, 3, 0, 0, []), (57, .iconst 3, 1, 0, 3, []), (58, .iaload, 1, 0, 0, []), (59, .isub, 1, 0, 0, []), (60, .ireturn, 1, 0, 0, []), (61, .iload_n 2, 1, 0, 0, []), (62, .aload_n 0, 1, 0, 0, []), (63, .iload_n 3, 1, 0, 0, [])]
def xm_96_2 : List xEn := [(64, .invokevirtual 220, 3, 0, 0, []), (67, .iadd, 1, 0, 0, []), (68, .istore_n 2, 1, 0, 0, []), (69, .iinc 3 1, 3, 0, 1, []), (72, .goto (-52), 3, 20, 0, []), (75, .iload_n 2, 1, 0, 0, []), (76, .ireturn, 1, 0, 0, [])]
/-- X5_evening -/
def xm_96 : xT := (5, [xm_96_0, xm_96_1, xm_96_2], [(15, [], [100, 214], []), (20, [0, 1, 2, 3], [214], []), (60, [], [100, 214], []), (76, [], [100, 214], [])], some .int, false, 4)
def xm_97_0 : List xEn := [(0, .iconst 0, 1, 0, 0, []), (1, .istore_n 1, 1, 0, 0, []), (2, .iconst 0, 1, 0, 0, []), (3, .istore_n 2, 1, 0, 0, []), (4, .iload_n 2, 1, 0, 0, []), (5, .bipush 9, 2, 0, 9, []), (7, .if_icmp .ge 53, 3, 60, 0, []), (10, .aload_n 0, 1, 0, 0, []), (11, .getfield 16, 3, 0, 0, []), (14, .invokevirtual 137, 3, 0, 0, []), (17, .istore_n 3, 1, 0, 0, []), (18, .iload_n 3, 1, 0, 0, []), (19, .invokestatic 223, 3, 0, 0, []), (22, .istore 4, 2, 0, 0, []), (24, .iload 4, 2, 0, 0, []), (26, .ifCond .le 28, 3, 54, 0, []), (29, .aload_n 0, 1, 0, 0, []), (30, .getfield 16, 3, 0, 0, [])]
def xm_97_1 : List xEn := [(33, .iload_n 3, 1, 0, 0, []), (34, .aload_n 0, 1, 0, 0, []), (35, .getfield 16, 3, 0, 0, []), (38, .invokevirtual 217, 3, 0, 0, []), (41, .iload 4, 2, 0, 0, []), (43, .irem, 1, 0, 0, []), (44, .invokestatic 228, 3, 0, 0, []), (47, .invokevirtual 116, 3, 0, 0, []), (50, .pop, 1, 0, 0, []), (51, .iinc 1 1, 3, 0, 1, []), (54, .iinc 2 1, 3, 0, 1, []), (57, .goto (-53), 3, 4, 0, []), (60, .iload_n 1, 1, 0, 0, []), (61, .ireturn, 1, 0, 0, [])]
/-- X5_lot -/
def xm_97 : xT := (5, [xm_97_0, xm_97_1], [(4, [0, 1, 2], [207, 208, 209, 210, 214, 800, 900, 1000], []), (61, [], [207, 208, 209, 210, 214, 800, 900, 1000], [])], some .int, false, 5)
def xm_98_0 : List xEn := [(0, .aload_n 0, 1, 0, 0, []), (1, .getfield 16, 3, 0, 0, []), (4, .getfield 231, 3, 0, 0, []), (7, .istore_n 2, 1, 0, 0, []), (8, .aload_n 0, 1, 0, 0, []), (9, .getfield 16, 3, 0, 0, []), (12, .iload_n 1, 1, 0, 0, []), (13, .putfield 231, 3, 0, 0, []), (16, .iload_n 2, 1, 0, 0, []), (17, .ireturn, 1, 0, 0, [])]
/-- X5_seed -/
def xm_98 : xT := (5, [xm_98_0], [], some .int, false, 3)
def xm_99_0 : List xEn := [(0, .iload_n 2, 1, 0, 0, []), (1, .iconst 1, 1, 0, 1, []), (2, .iconst 4, 1, 0, 4, []), (3, .invokestatic 51, 3, 0, 0, []), (6, .ifCond .ne 9, 3, 15, 0, []), (9, .aload_n 0, 1, 0, 0, []), (10, .iconst 0, 1, 0, 0, []), (11, .invokevirtual 55, 3, 0, 0, []), (14, .ireturn, 1, 0, 0, []), (15, .aload_n 0, 1, 0, 0, []), (16, .getfield 36, 3, 0, 0, []), (19, .iload_n 2, 1, 0, 0, []), (20, .invokevirtual 234, 3, 0, 0, []), (23, .ifCond .ne 9, 3, 32, 0, []), (26, .aload_n 0, 1, 0, 0, []), (27, .iconst 1, 1, 0, 1, []), (28, .invokevirtual 55, 3, 0, 0, []), (31, .ireturn, 1, 0, 0, [])]
def xm_99_1 : List xEn := [(32, .aload_n 0, 1, 0, 0, []), (33, .getfield 36, 3, 0, 0, []), (36, .iload_n 1, 1, 0, 0, []), (37, .iload_n 2, 1, 0, 0, []), (38, .invokevirtual 237, 3, 0, 0, []), (41, .ireturn, 1, 0, 0, [])]
/-- X5_feed -/
def xm_99 : xT := (5, [xm_99_0, xm_99_1], [(14, [], [100, 4202, 4300], []), (31, [], [100, 4202, 4300], []), (41, [], [100, 4202, 4300], [])], some .int, false, 3)
def xm_100_0 : List xEn := [(0, .aload_n 0, 1, 0, 0, []), (1, .getfield 36, 3, 0, 0, []), (4, .invokevirtual 240, 3, 0, 0, []), (7, .ireturn, 1, 0, 0, [])]
/-- X5_wipe -/
def xm_100 : xT := (5, [xm_100_0], [], some .int, false, 1)
def xm_101_0 : List xEn := [(0, .aload_n 0, 1, 0, 0, []), (1, .getfield 23, 3, 0, 0, []), (4, .aload_n 0, 1, 0, 0, []), (5, .getfield 16, 3, 0, 0, []), (8, .invokevirtual 242, 3, 0, 0, []), (11, .aload_n 0, 1, 0, 0, []), (12, .getfield 36, 3, 0, 0, []), (15, .aload_n 0, 1, 0, 0, []), (16, .getfield 23, 3, 0, 0, []), (19, .invokevirtual 245, 3, 0, 0, []), (22, .istore_n 1, 1, 0, 0, []), (23, .iload_n 1, 1, 0, 0, []), (24, .ifCond .lt 14, 3, 38, 0, []), (27, .aload_n 0, 1, 0, 0, []), (28, .getfield 16, 3, 0, 0, []), (31, .aload_n 0, 1, 0, 0, [])]
def xm_101_1 : List xEn := [(32, .getfield 23, 3, 0, 0, []), (35, .invokevirtual 242, 3, 0, 0, []), (38, .aload_n 0, 1, 0, 0, []), (39, .getfield 36, 3, 0, 0, []), (42, .invokevirtual 240, 3, 0, 0, []), (45, .pop, 1, 0, 0, []), (46, .iload_n 1, 1, 0, 0, []), (47, .ireturn, 1, 0, 0, [])]
/-- X5_text -/
def xm_101 : xT := (5, [xm_101_0, xm_101_1], [(47, [], [201, 207, 208, 209, 210, 214, 300, 400, 500, 600, 700, 800, 900, 1000, 1100, 2201, 2207, 2208, 2209, 2210, 2214, 2300, 2400, 2500, 2600, 2700, 2800, 2900, 3000, 3100, 4202, 4207, 4208, 4209, 4210, 4400, 4500, 4600, 4700], [])], some .int, false, 2)
def xm_102_0 : List xEn := [(0, .iload_n 1, 1, 0, 0, []), (1, .iconst 0, 1, 0, 0, []), (2, .bipush 9, 2, 0, 9, []), (4, .invokestatic 51, 3, 0, 0, []), (7, .ifCond .eq 19, 3, 26, 0, []), (10, .iload_n 2, 1, 0, 0, []), (11, .iconst (-1), 1, 0, (-1), []), (12, .if_icmp .eq 20, 3, 32, 0, []), (15, .aload_n 0, 1, 0, 0, []), (16, .getfield 16, 3, 0, 0, []), (19, .iload_n 2, 1, 0, 0, []), (20, .invokevirtual 66, 3, 0, 0, []), (23, .ifCond .ne 9, 3, 32, 0, []), (26, .aload_n 0, 1, 0, 0, []), (27, .iconst 0, 1, 0, 0, []), (28, .invokevirtual 55, 3, 0, 0, []), (31, .ireturn, 1, 0, 0, [])]
def xm_102_1 : List xEn := [(32, .aload_n 0, 1, 0, 0, []), (33, .getfield 16, 3, 0, 0, []), (36, .getfield 249, 3, 0, 0, []), (39, .iload_n 1, 1, 0, 0, []), (40, .iload_n 2, 1, 0, 0, []), (41, .iastore, 1, 0, 0, []), (42, .iconst 1, 1, 0, 1, []), (43, .ireturn, 1, 0, 0, [])]
/-- X5_hold -/
def xm_102 : xT := (5, [xm_102_0, xm_102_1], [(31, [], [100, 1100], []), (43, [], [100, 1100], [])], some .int, false, 3)
def xm_103_0 : List xEn := [(0, .iload_n 1, 1, 0, 0, []), (1, .iconst 0, 1, 0, 0, []), (2, .bipush 9, 2, 0, 9, []), (4, .invokestatic 51, 3, 0, 0, []), (7, .ifCond .eq 13, 3, 20, 0, []), (10, .iload_n 2, 1, 0, 0, []), (11, .iconst 0, 1, 0, 0, []), (12, .bipush 6, 2, 0, 6, []), (14, .invokestatic 51, 3, 0, 0, []), (17, .ifCond .ne 9, 3, 26, 0, []), (20, .aload_n 0, 1, 0, 0, []), (21, .iconst 0, 1, 0, 0, []), (22, .invokevirtual 55, 3, 0, 0, []), (25, .ireturn, 1, 0, 0, []), (26, .aload_n 0, 1, 0, 0, []), (27, .getfield 16, 3, 0, 0, []), (30, .getfield 249, 3, 0, 0, [])]
def xm_103_1 : List xEn := [(33, .iload_n 1, 1, 0, 0, []), (34, .iaload, 1, 0, 0, []), (35, .istore_n 3, 1, 0, 0, []), (36, .aload_n 0, 1, 0, 0, []), (37, .getfield 16, 3, 0, 0, []), (40, .iload_n 3, 1, 0, 0, []), (41, .invokevirtual 66, 3, 0, 0, []), (44, .ifCond .ne 9, 3, 53, 0, []), (47, .aload_n 0, 1, 0, 0, []), (48, .iconst 5, 1, 0, 5, []), (49, .invokevirtual 55, 3, 0, 0, []), (52, .ireturn, 1, 0, 0, []), (53, .aload_n 0, 1, 0, 0, []), (54, .getfield 16, 3, 0, 0, []), (57, .getfield 70, 3, 0, 0, []), (60, .iload_n 3, 1, 0, 0, []), (61, .iaload, 1, 0, 0, []), (62, .iload_n 2, 1, 0, 0, []), (63, .invokestatic 252, 3, 0, 0, [])]
def xm_103_2 : List xEn := [(66, .ifCond .ne 9, 3, 75, 0, []), (69, .aload_n 0, 1, 0, 0, []), (70, .iconst 2, 1, 0, 2, []), (71, .invokevirtual 55, 3, 0, 0, []), (74, .ireturn, 1, 0, 0, []), (75, .iload_n 3, 1, 0, 0, []), (76, .ireturn, 1, 0, 0, [])]
/-- X5_as -/
def xm_103 : xT := (5, [xm_103_0, xm_103_1, xm_103_2], [(76, [], [100], [])], some .int, false, 4)
def xm_104_0 : List xEn := [(0, .aload_n 0, 1, 0, 0, []), (1, .getfield 43, 3, 0, 0, []), (4, .iload_n 1, 1, 0, 0, []), (5, .invokevirtual 255, 3, 0, 0, []), (8, .ifCond .eq 25, 3, 33, 0, []), (11, .iload_n 2, 1, 0, 0, []), (12, .ifCond .eq 27, 3, 39, 0, []), (15, .iload_n 2, 1, 0, 0, []), (16, .bipush 8, 2, 0, 8, []), (18, .if_icmp .eq 21, 3, 39, 0, []), (21, .iload_n 2, 1, 0, 0, []), (22, .bipush 16, 2, 0, 16, []), (24, .if_icmp .eq 15, 3, 39, 0, []), (27, .iload_n 2, 1, 0, 0, []), (28, .bipush 32, 2, 0, 32, []), (30, .if_icmp .eq 9, 3, 39, 0, [])]
def xm_104_1 : List xEn := [(33, .aload_n 0, 1, 0, 0, []), (34, .iconst 0, 1, 0, 0, []), (35, .invokevirtual 55, 3, 0, 0, []), (38, .ireturn, 1, 0, 0, []), (39, .iload_n 3, 1, 0, 0, []), (40, .ifCond .ge 10, 3, 50, 0, []), (43, .aload_n 0, 1, 0, 0, []), (44, .bipush 6, 2, 0, 6, []), (46, .invokevirtual 55, 3, 0, 0, []), (49, .ireturn, 1, 0, 0, []), (50, .iload_n 3, 1, 0, 0, []), (51, .bipush 40, 2, 0, 40, []), (53, .if_icmp .le 9, 3, 62, 0, []), (56, .aload_n 0, 1, 0, 0, []), (57, .iconst 0, 1, 0, 0, []), (58, .invokevirtual 55, 3, 0, 0, []), (61, .ireturn, 1, 0, 0, []), (62, .aload_n 0, 1, 0, 0, []), (63, .getfield 43, 3, 0, 0, [])]
def xm_104_2 : List xEn := [(66, .iload_n 1, 1, 0, 0, []), (67, .iload_n 2, 1, 0, 0, []), (68, .iload_n 3, 1, 0, 0, []), (69, .invokevirtual 258, 3, 0, 0, []), (72, .ireturn, 1, 0, 0, [])]
/-- X5_sheet -/
def xm_104 : xT := (5, [xm_104_0, xm_104_1, xm_104_2], [(38, [], [100, 4900, 5000, 5100], []), (39, [0, 1, 2, 3], [], []), (49, [], [100, 4900, 5000, 5100], []), (61, [], [100, 4900, 5000, 5100], []), (72, [], [100, 4900, 5000, 5100], [])], some .int, false, 4)
def xm_105_0 : List xEn := [(0, .aload_n 0, 1, 0, 0, []), (1, .getfield 43, 3, 0, 0, []), (4, .iload_n 1, 1, 0, 0, []), (5, .invokevirtual 261, 3, 0, 0, []), (8, .istore 4, 2, 0, 0, []), (10, .iload 4, 2, 0, 0, []), (12, .iconst (-1), 1, 0, (-1), []), (13, .if_icmp .eq 10, 3, 23, 0, []), (16, .aload_n 0, 1, 0, 0, []), (17, .iload 4, 2, 0, 0, []), (19, .invokevirtual 55, 3, 0, 0, []), (22, .ireturn, 1, 0, 0, []), (23, .iload_n 2, 1, 0, 0, []), (24, .iconst 0, 1, 0, 0, []), (25, .aload_n 0, 1, 0, 0, []), (26, .getfield 43, 3, 0, 0, []), (29, .getfield 264, 3, 0, 0, [])]
def xm_105_1 : List xEn := [(32, .iload_n 1, 1, 0, 0, []), (33, .iaload, 1, 0, 0, []), (34, .iconst 1, 1, 0, 1, []), (35, .isub, 1, 0, 0, []), (36, .invokestatic 51, 3, 0, 0, []), (39, .ifCond .ne 9, 3, 48, 0, []), (42, .aload_n 0, 1, 0, 0, []), (43, .iconst 0, 1, 0, 0, []), (44, .invokevirtual 55, 3, 0, 0, []), (47, .ireturn, 1, 0, 0, []), (48, .aload_n 0, 1, 0, 0, []), (49, .getfield 43, 3, 0, 0, []), (52, .iload_n 1, 1, 0, 0, []), (53, .iload_n 2, 1, 0, 0, []), (54, .iload_n 3, 1, 0, 0, []), (55, .invokevirtual 267, 3, 0, 0, []), (58, .iconst 1, 1, 0, 1, []), (59, .ireturn, 1, 0, 0, [])]
/-- X5_write -/
def xm_105 : xT := (5, [xm_105_0, xm_105_1], [(22, [], [100, 5100], []), (47, [], [100, 5100], []), (59, [], [100, 5100], [])], some .int, false, 5)
def xm_106_0 : List xEn := [(0, .aload_n 0, 1, 0, 0, []), (1, .getfield 43, 3, 0, 0, []), (4, .iload_n 1, 1, 0, 0, []), (5, .invokevirtual 255, 3, 0, 0, []), (8, .ifCond .eq 14, 3, 22, 0, []), (11, .aload_n 0, 1, 0, 0, []), (12, .getfield 43, 3, 0, 0, []), (15, .iload_n 3, 1, 0, 0, []), (16, .invokevirtual 255, 3, 0, 0, []), (19, .ifCond .ne 9, 3, 28, 0, []), (22, .aload_n 0, 1, 0, 0, []), (23, .iconst 0, 1, 0, 0, []), (24, .invokevirtual 55, 3, 0, 0, []), (27, .ireturn, 1, 0, 0, []), (28, .aload_n 0, 1, 0, 0, []), (29, .getfield 43, 3, 0, 0, [])]
def xm_106_1 : List xEn := [(32, .iload_n 1, 1, 0, 0, []), (33, .invokevirtual 261, 3, 0, 0, []), (36, .iconst (-1), 1, 0, (-1), []), (37, .if_icmp .ne 15, 3, 52, 0, []), (40, .aload_n 0, 1, 0, 0, []), (41, .getfield 43, 3, 0, 0, []), (44, .iload_n 3, 1, 0, 0, []), (45, .invokevirtual 261, 3, 0, 0, []), (48, .iconst (-1), 1, 0, (-1), []), (49, .if_icmp .eq 9, 3, 58, 0, []), (52, .aload_n 0, 1, 0, 0, []), (53, .iconst 5, 1, 0, 5, []), (54, .invokevirtual 55, 3, 0, 0, []), (57, .ireturn, 1, 0, 0, []), (58, .aload_n 0, 1, 0, 0, []), (59, .getfield 43, 3, 0, 0, []), (62, .getfield 271, 3, 0, 0, [])]
def xm_106_2 : List xEn := [(65, .iload_n 1, 1, 0, 0, []), (66, .iaload, 1, 0, 0, []), (67, .aload_n 0, 1, 0, 0, []), (68, .getfield 43, 3, 0, 0, []), (71, .getfield 271, 3, 0, 0, []), (74, .iload_n 3, 1, 0, 0, []), (75, .iaload, 1, 0, 0, []), (76, .if_icmp .eq 9, 3, 85, 0, []), (79, .aload_n 0, 1, 0, 0, []), (80, .iconst 2, 1, 0, 2, []), (81, .invokevirtual 55, 3, 0, 0, []), (84, .ireturn, 1, 0, 0, []), (85, .aload_n 0, 1, 0, 0, []), (86, .getfield 43, 3, 0, 0, []), (89, .iload_n 1, 1, 0, 0, []), (90, .iload_n 2, 1, 0, 0, []), (91, .iload 5, 2, 0, 0, []), (93, .invokevirtual 274, 3, 0, 0, [])]
def xm_106_3 : List xEn := [(96, .ifCond .eq 18, 3, 114, 0, []), (99, .aload_n 0, 1, 0, 0, []), (100, .getfield 43, 3, 0, 0, []), (103, .iload_n 3, 1, 0, 0, []), (104, .iload 4, 2, 0, 0, []), (106, .iload 5, 2, 0, 0, []), (108, .invokevirtual 274, 3, 0, 0, []), (111, .ifCond .ne 9, 3, 120, 0, []), (114, .aload_n 0, 1, 0, 0, []), (115, .iconst 0, 1, 0, 0, []), (116, .invokevirtual 55, 3, 0, 0, []), (119, .ireturn, 1, 0, 0, []), (120, .aload_n 0, 1, 0, 0, []), (121, .getfield 43, 3, 0, 0, []), (124, .iload_n 1, 1, 0, 0, []), (125, .iload_n 2, 1, 0, 0, []), (126, .iload_n 3, 1, 0, 0, []), (127, .iload 4, 2, 0, 0, [])]
def xm_106_4 : List xEn := [(129, .iload 5, 2, 0, 0, []), (131, .invokevirtual 277, 3, 0, 0, []), (134, .ireturn, 1, 0, 0, [])]
/-- X5_copy -/
def xm_106 : xT := (5, [xm_106_0, xm_106_1, xm_106_2, xm_106_3, xm_106_4], [(27, [], [100, 5100], []), (57, [], [100, 5100], []), (84, [], [100, 5100], []), (119, [], [100, 5100], []), (134, [], [100, 5100], [])], some .int, false, 6)
def xm_107_0 : List xEn := [(0, .aload_n 0, 1, 0, 0, []), (1, .getfield 43, 3, 0, 0, []), (4, .iload_n 1, 1, 0, 0, []), (5, .invokevirtual 261, 3, 0, 0, []), (8, .istore_n 2, 1, 0, 0, []), (9, .iload_n 2, 1, 0, 0, []), (10, .iconst (-1), 1, 0, (-1), []), (11, .if_icmp .eq 9, 3, 20, 0, []), (14, .aload_n 0, 1, 0, 0, []), (15, .iload_n 2, 1, 0, 0, []), (16, .invokevirtual 55, 3, 0, 0, []), (19, .ireturn, 1, 0, 0, []), (20, .iconst 0, 1, 0, 0, []), (21, .istore_n 3, 1, 0, 0, []), (22, .aload_n 0, 1, 0, 0, []), (23, .getfield 43, 3, 0, 0, []), (26, .getfield 264, 3, 0, 0, []), (29, .iload_n 1, 1, 0, 0, []), (30, .iaload, 1, 0, 0, []), (31, .aload_n 0, 1, 0, 0, [])]
def xm_107_1 : List xEn := [(32, .getfield 16, 3, 0, 0, []), (35, .getfield 59, 3, 0, 0, []), (38, .invokestatic 281, 3, 0, 0, []), (41, .istore 4, 2, 0, 0, []), (43, .iload_n 3, 1, 0, 0, []), (44, .iload 4, 2, 0, 0, []), (46, .if_icmp .ge 45, 3, 91, 0, []), (49, .aload_n 0, 1, 0, 0, []), (50, .getfield 43, 3, 0, 0, []), (53, .iload_n 1, 1, 0, 0, []), (54, .iload_n 3, 1, 0, 0, []), (55, .invokevirtual 286, 3, 0, 0, []), (58, .iconst 0, 1, 0, 0, []), (59, .bipush 99, 2, 0, 99, []), (61, .invokestatic 51, 3, 0, 0, [])]
def xm_107_2 : List xEn := [(64, .ifCond .eq 27, 3, 91, 0, []), (67, .aload_n 0, 1, 0, 0, []), (68, .getfield 16, 3, 0, 0, []), (71, .getfield 73, 3, 0, 0, []), (74, .iload_n 3, 1, 0, 0, []), (75, .aload_n 0, 1, 0, 0, []), (76, .getfield 43, 3, 0, 0, []), (79, .iload_n 1, 1, 0, 0, []), (80, .iload_n 3, 1, 0, 0, []), (81, .invokevirtual 286, 3, 0, 0, []), (84, .iastore, 1, 0, 0, []), (85, .iinc 3 1, 3, 0, 1, []), (88, .goto (-45), 3, 43, 0, []), (91, .iload_n 3, 1, 0, 0, []), (92, .ireturn, 1, 0, 0, [])]
/-- X5_load -/
def xm_107 : xT := (5, [xm_107_0, xm_107_1, xm_107_2], [(19, [], [100, 400], []), (43, [0, 1, 3, 4], [400], []), (92, [], [100, 400], [])], some .int, false, 5)
def xm_108_0 : List xEn := [(0, .aload_n 0, 1, 0, 0, []), (1, .getfield 43, 3, 0, 0, []), (4, .iload_n 1, 1, 0, 0, []), (5, .invokevirtual 261, 3, 0, 0, []), (8, .istore_n 2, 1, 0, 0, []), (9, .iload_n 2, 1, 0, 0, []), (10, .iconst (-1), 1, 0, (-1), []), (11, .if_icmp .eq 9, 3, 20, 0, []), (14, .aload_n 0, 1, 0, 0, []), (15, .iload_n 2, 1, 0, 0, []), (16, .invokevirtual 55, 3, 0, 0, []), (19, .ireturn, 1, 0, 0, []), (20, .aload_n 0, 1, 0, 0, []), (21, .iload_n 1, 1, 0, 0, []), (22, .invokevirtual 289, 3, 0, 0, []), (25, .ireturn, 1, 0, 0, [])]
/-- X5_judge -/
def xm_108 : xT := (5, [xm_108_0], [(25, [], [100], [])], some .int, false, 3)
def xm_109_0 : List xEn := [(0, .aload_n 0, 1, 0, 0, []), (1, .getfield 43, 3, 0, 0, []), (4, .iload_n 1, 1, 0, 0, []), (5, .invokevirtual 261, 3, 0, 0, []), (8, .istore_n 2, 1, 0, 0, []), (9, .iload_n 2, 1, 0, 0, []), (10, .iconst (-1), 1, 0, (-1), []), (11, .if_icmp .eq 9, 3, 20, 0, []), (14, .aload_n 0, 1, 0, 0, []), (15, .iload_n 2, 1, 0, 0, []), (16, .invokevirtual 55, 3, 0, 0, []), (19, .ireturn, 1, 0, 0, []), (20, .aload_n 0, 1, 0, 0, []), (21, .iload_n 1, 1, 0, 0, []), (22, .invokevirtual 289, 3, 0, 0, []), (25, .ifCond .eq 9, 3, 34, 0, []), (28, .aload_n 0, 1, 0, 0, []), (29, .iconst 4, 1, 0, 4, []), (30, .invokevirtual 55, 3, 0, 0, [])]
def xm_109_1 : List xEn := [(33, .ireturn, 1, 0, 0, []), (34, .aload_n 0, 1, 0, 0, []), (35, .getfield 16, 3, 0, 0, []), (38, .getfield 131, 3, 0, 0, []), (41, .istore_n 3, 1, 0, 0, []), (42, .aload_n 0, 1, 0, 0, []), (43, .getfield 16, 3, 0, 0, []), (46, .invokevirtual 88, 3, 0, 0, []), (49, .istore 4, 2, 0, 0, []), (51, .iconst 0, 1, 0, 0, []), (52, .istore 5, 2, 0, 0, []), (54, .iload 5, 2, 0, 0, []), (56, .aload_n 0, 1, 0, 0, []), (57, .getfield 43, 3, 0, 0, []), (60, .getfield 264, 3, 0, 0, []), (63, .iload_n 1, 1, 0, 0, [])]
def xm_109_2 : List xEn := [(64, .iaload, 1, 0, 0, []), (65, .if_icmp .ge 46, 3, 111, 0, []), (68, .aload_n 0, 1, 0, 0, []), (69, .getfield 43, 3, 0, 0, []), (72, .iload_n 1, 1, 0, 0, []), (73, .iload 5, 2, 0, 0, []), (75, .invokevirtual 286, 3, 0, 0, []), (78, .istore 6, 2, 0, 0, []), (80, .iload_n 3, 1, 0, 0, []), (81, .aload_n 0, 1, 0, 0, []), (82, .getfield 16, 3, 0, 0, []), (85, .iload 6, 2, 0, 0, []), (87, .iload 4, 2, 0, 0, []), (89, .invokevirtual 92, 3, 0, 0, []), (92, .iadd, 1, 0, 0, []), (93, .istore_n 3, 1, 0, 0, []), (94, .aload_n 0, 1, 0, 0, []), (95, .getfield 16, 3, 0, 0, [])]
def xm_109_3 : List xEn := [(98, .iload 6, 2, 0, 0, []), (100, .invokevirtual 82, 3, 0, 0, []), (103, .istore 4, 2, 0, 0, []), (105, .iinc 5 1, 3, 0, 1, []), (108, .goto (-54), 3, 54, 0, []), (111, .iload_n 3, 1, 0, 0, []), (112, .ireturn, 1, 0, 0, [])]
/-- X5_loud -/
def xm_109 : xT := (5, [xm_109_0, xm_109_1, xm_109_2, xm_109_3], [(54, [0, 1, 3, 4, 5], [], []), (112, [], [100], [])], some .int, false, 7)
def xm_110_0 : List xEn := [(0, .aload_n 0, 1, 0, 0, []), (1, .getfield 20, 3, 0, 0, []), (4, .aload_n 0, 1, 0, 0, []), (5, .getfield 16, 3, 0, 0, []), (8, .invokevirtual 242, 3, 0, 0, []), (11, .aload_n 0, 1, 0, 0, []), (12, .iconst 1, 1, 0, 1, []), (13, .putfield 47, 3, 0, 0, []), (16, .iconst 1, 1, 0, 1, []), (17, .ireturn, 1, 0, 0, [])]
/-- X5_image -/
def xm_110 : xT := (5, [xm_110_0], [], some .int, false, 1)
def xm_111_0 : List xEn := [(0, .aload_n 0, 1, 0, 0, []), (1, .getfield 47, 3, 0, 0, []), (4, .ifCond .ne 9, 3, 13, 0, []), (7, .aload_n 0, 1, 0, 0, []), (8, .iconst 3, 1, 0, 3, []), (9, .invokevirtual 55, 3, 0, 0, []), (12, .ireturn, 1, 0, 0, []), (13, .aload_n 0, 1, 0, 0, []), (14, .getfield 16, 3, 0, 0, []), (17, .aload_n 0, 1, 0, 0, []), (18, .getfield 20, 3, 0, 0, []), (21, .invokevirtual 242, 3, 0, 0, []), (24, .aload_n 0, 1, 0, 0, []), (25, .getfield 16, 3, 0, 0, []), (28, .getfield 119, 3, 0, 0, []), (31, .ireturn, 1, 0, 0, [])]
/-- X5_undo -/
def xm_111 : xT := (5, [xm_111_0], [(12, [], [100, 201, 207, 208, 209, 210, 214, 300, 400, 500, 600, 700, 800, 900, 1000, 1100], []), (31, [], [100, 201, 207, 208, 209, 210, 214, 300, 400, 500, 600, 700, 800, 900, 1000, 1100], [])], some .int, false, 1)
def xm_112_0 : List xEn := [(0, .aload_n 0, 1, 0, 0, []), (1, .getfield 47, 3, 0, 0, []), (4, .ifCond .eq 7, 3, 11, 0, []), (7, .iconst 1, 1, 0, 1, []), (8, .goto 4, 3, 12, 0, []), (11, .iconst 0, 1, 0, 0, []), (12, .istore_n 1, 1, 0, 0, []), (13, .aload_n 0, 1, 0, 0, []), (14, .iconst 0, 1, 0, 0, []), (15, .putfield 47, 3, 0, 0, []), (18, .iload_n 1, 1, 0, 0, []), (19, .ireturn, 1, 0, 0, [])]
/-- X5_tear -/
def xm_112 : xT := (5, [xm_112_0], [], some .int, false, 2)
def xm_113_0 : List xEn := [(0, .iload_n 1, 1, 0, 0, []), (1, .tableswitch 111 0 7 #[47, 55, 63, 71, 79, 87, 95, 103], 47, 112, 0, [(0, 48), (1, 56), (2, 64), (3, 72), (4, 80), (5, 88), (6, 96), (7, 104)])]
def xm_113_1 : List xEn := [(48, .aload_n 0, 1, 0, 0, []), (49, .getfield 16, 3, 0, 0, []), (52, .getfield 119, 3, 0, 0, []), (55, .ireturn, 1, 0, 0, []), (56, .aload_n 0, 1, 0, 0, []), (57, .getfield 16, 3, 0, 0, []), (60, .getfield 59, 3, 0, 0, []), (63, .ireturn, 1, 0, 0, [])]
def xm_113_2 : List xEn := [(64, .aload_n 0, 1, 0, 0, []), (65, .getfield 16, 3, 0, 0, []), (68, .invokevirtual 292, 3, 0, 0, []), (71, .ireturn, 1, 0, 0, []), (72, .aload_n 0, 1, 0, 0, []), (73, .getfield 16, 3, 0, 0, []), (76, .getfield 131, 3, 0, 0, []), (79, .ireturn, 1, 0, 0, []), (80, .aload_n 0, 1, 0, 0, []), (81, .getfield 16, 3, 0, 0, []), (84, .invokevirtual 295, 3, 0, 0, []), (87, .ireturn, 1, 0, 0, []), (88, .aload_n 0, 1, 0, 0, []), (89, .getfield 36, 3, 0, 0, []), (92, .getfield 298, 3, 0, 0, []), (95, .ireturn, 1, 0, 0, [])]
def xm_113_3 : List xEn := [(96, .aload_n 0, 1, 0, 0, []), (97, .getfield 16, 3, 0, 0, []), (100, .getfield 231, 3, 0, 0, []), (103, .ireturn, 1, 0, 0, []), (104, .aload_n 0, 1, 0, 0, []), (105, .getfield 16, 3, 0, 0, []), (108, .invokevirtual 301, 3, 0, 0, []), (111, .ireturn, 1, 0, 0, []), (112, .aload_n 0, 1, 0, 0, []), (113, .iconst 0, 1, 0, 0, []), (114, .invokevirtual 55, 3, 0, 0, []), (117, .ireturn, 1, 0, 0, [])]
/-- X5_count -/
def xm_113 : xT := (5, [xm_113_0, xm_113_1, xm_113_2, xm_113_3], [(55, [], [100], []), (63, [], [100], []), (71, [], [100], []), (79, [], [100], []), (87, [], [100], []), (95, [], [100], []), (103, [], [100], []), (111, [], [100], [])], some .int, false, 2)
def xm_114_0 : List xEn := [(0, .iload_n 1, 1, 0, 0, []), (1, .iconst (-1), 1, 0, (-1), []), (2, .bipush 6, 2, 0, 6, []), (4, .invokestatic 51, 3, 0, 0, []), (7, .ifCond .ne 9, 3, 16, 0, []), (10, .aload_n 0, 1, 0, 0, []), (11, .iconst 0, 1, 0, 0, []), (12, .invokevirtual 55, 3, 0, 0, []), (15, .ireturn, 1, 0, 0, []), (16, .iload_n 1, 1, 0, 0, []), (17, .ifCond .lt 10, 3, 27, 0, []), (20, .aload_n 0, 1, 0, 0, []), (21, .getfield 9, 3, 0, 0, []), (24, .iload_n 1, 1, 0, 0, []), (25, .iaload, 1, 0, 0, []), (26, .ireturn, 1, 0, 0, []), (27, .iconst 0, 1, 0, 0, []), (28, .istore_n 2, 1, 0, 0, []), (29, .iconst 0, 1, 0, 0, []), (30, .istore_n 3, 1, 0, 0, []), (31, .iload_n 3, 1, 0, 0, [])]
def xm_114_1 : List xEn := [(32, .bipush 7, 2, 0, 7, []), (34, .if_icmp .ge 18, 3, 52, 0, []), (37, .iload_n 2, 1, 0, 0, []), (38, .aload_n 0, 1, 0, 0, []), (39, .getfield 9, 3, 0, 0, []), (42, .iload_n 3, 1, 0, 0, []), (43, .iaload, 1, 0, 0, []), (44, .iadd, 1, 0, 0, []), (45, .istore_n 2, 1, 0, 0, []), (46, .iinc 3 1, 3, 0, 1, []), (49, .goto (-18), 3, 31, 0, []), (52, .iload_n 2, 1, 0, 0, []), (53, .ireturn, 1, 0, 0, [])]
/-- X5_status -/
def xm_114 : xT := (5, [xm_114_0, xm_114_1], [(26, [], [100], []), (31, [0, 2, 3], [], []), (53, [], [100], [])], some .int, false, 4)
def xm_115_0 : List xEn := [(0, .aload_n 0, 1, 0, 0, []), (1, .getfield 9, 3, 0, 0, []), (4, .iload_n 1, 1, 0, 0, []), (5, .dup2, 1, 0, 0, []), (6, .iaload, 1, 0, 0, []), (7, .iconst 1, 1, 0, 1, []), (8, .iadd, 1, 0, 0, []), (9, .iastore, 1, 0, 0, []), (10, .ldc_w 304, 3, 0, 0, []), (13, .iload_n 1, 1, 0, 0, []), (14, .isub, 1, 0, 0, []), (15, .ireturn, 1, 0, 0, [])]
/-- X5_finding -/
def xm_115 : xT := (5, [xm_115_0], [], some .int, false, 2)
def xm_116_0 : List xEn := [(0, .iload_n 0, 1, 0, 0, []), (1, .iload_n 1, 1, 0, 0, []), (2, .if_icmp .lt 12, 3, 14, 0, []), (5, .iload_n 0, 1, 0, 0, []), (6, .iload_n 2, 1, 0, 0, []), (7, .if_icmp .gt 7, 3, 14, 0, []), (10, .iconst 1, 1, 0, 1, []), (11, .goto 4, 3, 15, 0, []), (14, .iconst 0, 1, 0, 0, []), (15, .ireturn, 1, 0, 0, [])]
/-- X5_isIn -/
def xm_116 : xT := (5, [xm_116_0], [], some .boolean, false, 3)
def xm_117_0 : List xEn := [(0, .aload_n 0, 1, 0, 0, []), (1, .iload_n 1, 1, 0, 0, []), (2, .iaload, 1, 0, 0, []), (3, .istore_n 3, 1, 0, 0, []), (4, .aload_n 0, 1, 0, 0, []), (5, .iload_n 1, 1, 0, 0, []), (6, .iload_n 2, 1, 0, 0, []), (7, .iastore, 1, 0, 0, []), (8, .iload_n 3, 1, 0, 0, []), (9, .ireturn, 1, 0, 0, [])]
/-- X5_put -/
def xm_117 : xT := (5, [xm_117_0], [], some .int, false, 4)
def xm_118_0 : List xEn := [(0, .iconst 0, 1, 0, 0, []), (1, .istore_n 2, 1, 0, 0, []), (2, .iconst 0, 1, 0, 0, []), (3, .istore_n 3, 1, 0, 0, []), (4, .iload_n 3, 1, 0, 0, []), (5, .bipush 9, 2, 0, 9, []), (7, .if_icmp .ge 27, 3, 34, 0, []), (10, .iload_n 0, 1, 0, 0, []), (11, .iconst 1, 1, 0, 1, []), (12, .iload_n 3, 1, 0, 0, []), (13, .ishl, 1, 0, 0, []), (14, .iand, 1, 0, 0, []), (15, .ifCond .eq 13, 3, 28, 0, []), (18, .iload_n 2, 1, 0, 0, []), (19, .iload_n 1, 1, 0, 0, []), (20, .if_icmp .ne 5, 3, 25, 0, []), (23, .iload_n 3, 1, 0, 0, []), (24, .ireturn, 1, 0, 0, []), (25, .iinc 2 1, 3, 0, 1, []), (28, .iinc 3 1, 3, 0, 1, []), (31, .goto (-27), 3, 4, 0, [])]
def xm_118_1 : List xEn := [(34, .iconst (-1), 1, 0, (-1), []), (35, .ireturn, 1, 0, 0, [])]
/-- X5_memberOf -/
def xm_118 : xT := (5, [xm_118_0, xm_118_1], [(4, [0, 1, 2, 3], [], [])], some .int, false, 4)
def xm_119_0 : List xEn := [(0, .aload_n 0, 1, 0, 0, []), (1, .getfield 16, 3, 0, 0, []), (4, .getfield 107, 3, 0, 0, []), (7, .iconst 2, 1, 0, 2, []), (8, .iaload, 1, 0, 0, []), (9, .iload_n 1, 1, 0, 0, []), (10, .aload_n 0, 1, 0, 0, []), (11, .getfield 16, 3, 0, 0, []), (14, .getfield 107, 3, 0, 0, []), (17, .iconst 0, 1, 0, 0, []), (18, .iaload, 1, 0, 0, []), (19, .imul, 1, 0, 0, []), (20, .isub, 1, 0, 0, []), (21, .ireturn, 1, 0, 0, [])]
/-- X5_gainAt -/
def xm_119 : xT := (5, [xm_119_0], [], some .int, false, 2)
def xm_120_0 : List xEn := [(0, .lconst 1, 1, 0, 0, []), (1, .lstore_n 1, 1, 0, 0, []), (2, .iload_n 0, 1, 0, 0, []), (3, .istore_n 3, 1, 0, 0, []), (4, .iload_n 3, 1, 0, 0, []), (5, .bipush 8, 2, 0, 8, []), (7, .if_icmp .ge 15, 3, 22, 0, []), (10, .lload_n 1, 1, 0, 0, []), (11, .ldc2_w 305, 3, 0, 0, []), (14, .lmul, 1, 0, 0, []), (15, .lstore_n 1, 1, 0, 0, []), (16, .iinc 3 1, 3, 0, 1, []), (19, .goto (-15), 3, 4, 0, []), (22, .lload_n 1, 1, 0, 0, []), (23, .lreturn, 1, 0, 0, [])]
/-- X5_partsFrom -/
def xm_120 : xT := (5, [xm_120_0], [(4, [1, 3], [], [])], some .long, false, 4)
def xm_121_0 : List xEn := [(0, .lconst 0, 1, 0, 0, []), (1, .lstore_n 2, 1, 0, 0, []), (2, .lconst 1, 1, 0, 0, []), (3, .lstore 4, 2, 0, 0, []), (5, .bipush 7, 2, 0, 7, []), (7, .istore 6, 2, 0, 0, []), (9, .iload 6, 2, 0, 0, []), (11, .iload_n 1, 1, 0, 0, []), (12, .if_icmp .lt 86, 3, 98, 0, []), (15, .aload_n 0, 1, 0, 0, []), (16, .getfield 16, 3, 0, 0, []), (19, .getfield 107, 3, 0, 0, []), (22, .iconst 1, 1, 0, 1, []), (23, .iaload, 1, 0, 0, []), (24, .iload 6, 2, 0, 0, []), (26, .imul, 1, 0, 0, []), (27, .bipush 10, 2, 0, 10, []), (29, .invokestatic 281, 3, 0, 0, [])]
def xm_121_1 : List xEn := [(32, .istore 7, 2, 0, 0, []), (34, .aload_n 0, 1, 0, 0, []), (35, .iload 6, 2, 0, 0, []), (37, .invokevirtual 220, 3, 0, 0, []), (40, .i2l, 1, 0, 0, []), (41, .lload 4, 2, 0, 0, []), (43, .lmul, 1, 0, 0, []), (44, .lload_n 2, 1, 0, 0, []), (45, .ladd, 1, 0, 0, []), (46, .lstore 8, 2, 0, 0, []), (48, .aload_n 0, 1, 0, 0, []), (49, .getfield 16, 3, 0, 0, []), (52, .getfield 107, 3, 0, 0, []), (55, .iconst 3, 1, 0, 3, []), (56, .iaload, 1, 0, 0, []), (57, .i2l, 1, 0, 0, []), (58, .lload 4, 2, 0, 0, []), (60, .lmul, 1, 0, 0, []), (61, .lstore 10, 2, 0, 0, []), (63, .lconst 0, 1, 0, 0, [])]
def xm_121_2 : List xEn := [(64, .bipush 10, 2, 0, 10, []), (66, .iload 7, 2, 0, 0, []), (68, .isub, 1, 0, 0, []), (69, .i2l, 1, 0, 0, []), (70, .lload 8, 2, 0, 0, []), (72, .lmul, 1, 0, 0, []), (73, .iload 7, 2, 0, 0, []), (75, .i2l, 1, 0, 0, []), (76, .lload 10, 2, 0, 0, []), (78, .lmul, 1, 0, 0, []), (79, .lsub, 1, 0, 0, []), (80, .invokestatic 307, 3, 0, 0, []), (83, .lstore_n 2, 1, 0, 0, []), (84, .lload 4, 2, 0, 0, []), (86, .ldc2_w 305, 3, 0, 0, []), (89, .lmul, 1, 0, 0, []), (90, .lstore 4, 2, 0, 0, []), (92, .iinc 6 (-1), 3, 0, (-1), []), (95, .goto (-86), 3, 9, 0, [])]
def xm_121_3 : List xEn := [(98, .lload_n 2, 1, 0, 0, []), (99, .lreturn, 1, 0, 0, [])]
/-- X5_worth -/
def xm_121 : xT := (5, [xm_121_0, xm_121_1, xm_121_2, xm_121_3], [(9, [0, 1, 2, 4, 6], [], [])], some .long, false, 12)
def xm_122_0 : List xEn := [(0, .aload_n 0, 1, 0, 0, []), (1, .getfield 16, 3, 0, 0, []), (4, .getfield 110, 3, 0, 0, []), (7, .istore_n 2, 1, 0, 0, []), (8, .iconst 0, 1, 0, 0, []), (9, .istore_n 3, 1, 0, 0, []), (10, .iload_n 3, 1, 0, 0, []), (11, .aload_n 0, 1, 0, 0, []), (12, .getfield 43, 3, 0, 0, []), (15, .getfield 264, 3, 0, 0, []), (18, .iload_n 1, 1, 0, 0, []), (19, .iaload, 1, 0, 0, []), (20, .if_icmp .ge 56, 3, 76, 0, []), (23, .aload_n 0, 1, 0, 0, []), (24, .getfield 43, 3, 0, 0, []), (27, .iload_n 1, 1, 0, 0, []), (28, .iload_n 3, 1, 0, 0, []), (29, .invokevirtual 286, 3, 0, 0, [])]
def xm_122_1 : List xEn := [(32, .istore 4, 2, 0, 0, []), (34, .aload_n 0, 1, 0, 0, []), (35, .getfield 16, 3, 0, 0, []), (38, .iload 4, 2, 0, 0, []), (40, .invokevirtual 66, 3, 0, 0, []), (43, .ifCond .eq 16, 3, 59, 0, []), (46, .aload_n 0, 1, 0, 0, []), (47, .getfield 16, 3, 0, 0, []), (50, .iload 4, 2, 0, 0, []), (52, .iload_n 2, 1, 0, 0, []), (53, .invokevirtual 113, 3, 0, 0, []), (56, .ifCond .ne 7, 3, 63, 0, []), (59, .iconst 1, 1, 0, 1, []), (60, .iload_n 3, 1, 0, 0, []), (61, .iadd, 1, 0, 0, []), (62, .ireturn, 1, 0, 0, []), (63, .iload_n 2, 1, 0, 0, [])]
def xm_122_2 : List xEn := [(64, .iconst 1, 1, 0, 1, []), (65, .iload 4, 2, 0, 0, []), (67, .ishl, 1, 0, 0, []), (68, .ior, 1, 0, 0, []), (69, .istore_n 2, 1, 0, 0, []), (70, .iinc 3 1, 3, 0, 1, []), (73, .goto (-63), 3, 10, 0, []), (76, .iconst 0, 1, 0, 0, []), (77, .ireturn, 1, 0, 0, [])]
/-- X5_firstThatCannot -/
def xm_122 : xT := (5, [xm_122_0, xm_122_1, xm_122_2], [(10, [0, 1, 2, 3], [], [])], some .int, false, 5)
def xm_123_0 : List xEn := [(0, .aload_n 0, 1, 0, 0, []), (1, .getfield 19, 3, 0, 0, []), (4, .iload_n 1, 1, 0, 0, []), (5, .dup2, 1, 0, 0, []), (6, .iaload, 1, 0, 0, []), (7, .iconst 1, 1, 0, 1, []), (8, .iadd, 1, 0, 0, []), (9, .iastore, 1, 0, 0, []), (10, .ldc 59, 2, 0, 0, []), (12, .iload_n 1, 1, 0, 0, []), (13, .isub, 1, 0, 0, []), (14, .ireturn, 1, 0, 0, [])]
/-- X6_no -/
def xm_123 : xT := (6, [xm_123_0], [], some .int, false, 2)
def xm_124_0 : List xEn := [(0, .iload_n 0, 1, 0, 0, []), (1, .iload_n 1, 1, 0, 0, []), (2, .if_icmp .lt 12, 3, 14, 0, []), (5, .iload_n 0, 1, 0, 0, []), (6, .iload_n 2, 1, 0, 0, []), (7, .if_icmp .gt 7, 3, 14, 0, []), (10, .iconst 1, 1, 0, 1, []), (11, .goto 4, 3, 15, 0, []), (14, .iconst 0, 1, 0, 0, []), (15, .ireturn, 1, 0, 0, [])]
/-- X6_in1 -/
def xm_124 : xT := (6, [xm_124_0], [], some .boolean, false, 3)
def xm_125_0 : List xEn := [(0, .iload_n 0, 1, 0, 0, []), (1, .iload_n 1, 1, 0, 0, []), (2, .if_icmp .le 7, 3, 9, 0, []), (5, .iload_n 0, 1, 0, 0, []), (6, .goto 4, 3, 10, 0, []), (9, .iload_n 1, 1, 0, 0, []), (10, .ireturn, 1, 0, 0, [])]
/-- X6_most -/
def xm_125 : xT := (6, [xm_125_0], [], some .int, false, 2)
def xm_126_0 : List xEn := [(0, .iconst 0, 1, 0, 0, []), (1, .istore_n 1, 1, 0, 0, []), (2, .iload_n 0, 1, 0, 0, []), (3, .istore_n 2, 1, 0, 0, []), (4, .iload_n 2, 1, 0, 0, []), (5, .ifCond .eq 15, 3, 20, 0, []), (8, .iinc 1 1, 3, 0, 1, []), (11, .iload_n 2, 1, 0, 0, []), (12, .iload_n 2, 1, 0, 0, []), (13, .iconst 1, 1, 0, 1, []), (14, .isub, 1, 0, 0, []), (15, .iand, 1, 0, 0, []), (16, .istore_n 2, 1, 0, 0, []), (17, .goto (-13), 3, 4, 0, []), (20, .iload_n 1, 1, 0, 0, []), (21, .ireturn, 1, 0, 0, [])]
/-- X6_bits -/
def xm_126 : xT := (6, [xm_126_0], [(4, [1, 2], [], [])], some .int, false, 3)
def xm_127_0 : List xEn := [(0, .iload_n 0, 1, 0, 0, []), (1, .iload_n 1, 1, 0, 0, []), (2, .ishr, 1, 0, 0, []), (3, .iconst 1, 1, 0, 1, []), (4, .iand, 1, 0, 0, []), (5, .iconst 1, 1, 0, 1, []), (6, .if_icmp .ne 7, 3, 13, 0, []), (9, .iconst 1, 1, 0, 1, []), (10, .goto 4, 3, 14, 0, []), (13, .iconst 0, 1, 0, 0, []), (14, .ireturn, 1, 0, 0, [])]
/-- X6_isIn -/
def xm_127 : xT := (6, [xm_127_0], [], some .boolean, false, 2)
def xm_128_0 : List xEn := [(0, .iload_n 1, 1, 0, 0, []), (1, .iconst 0, 1, 0, 0, []), (2, .aload_n 0, 1, 0, 0, []), (3, .getfield 9, 3, 0, 0, []), (6, .iconst 3, 1, 0, 3, []), (7, .iaload, 1, 0, 0, []), (8, .iconst 1, 1, 0, 1, []), (9, .isub, 1, 0, 0, []), (10, .invokestatic 60, 3, 0, 0, []), (13, .ireturn, 1, 0, 0, [])]
/-- X6_isBow -/
def xm_128 : xT := (6, [xm_128_0], [], some .boolean, false, 2)
def xm_129_0 : List xEn := [(0, .aload_n 0, 1, 0, 0, []), (1, .getfield 9, 3, 0, 0, []), (4, .bipush 10, 2, 0, 10, []), (6, .iconst 4, 1, 0, 4, []), (7, .iload_n 1, 1, 0, 0, []), (8, .imul, 1, 0, 0, []), (9, .iadd, 1, 0, 0, []), (10, .iload_n 2, 1, 0, 0, []), (11, .iadd, 1, 0, 0, []), (12, .iaload, 1, 0, 0, []), (13, .ireturn, 1, 0, 0, [])]
/-- X6_get -/
def xm_129 : xT := (6, [xm_129_0], [], some .int, false, 3)
def xm_130_0 : List xEn := [(0, .aload_n 0, 1, 0, 0, []), (1, .getfield 9, 3, 0, 0, []), (4, .bipush 10, 2, 0, 10, []), (6, .iconst 4, 1, 0, 4, []), (7, .iload_n 1, 1, 0, 0, []), (8, .imul, 1, 0, 0, []), (9, .iadd, 1, 0, 0, []), (10, .iload_n 2, 1, 0, 0, []), (11, .iadd, 1, 0, 0, []), (12, .iload_n 3, 1, 0, 0, []), (13, .iastore, 1, 0, 0, []), (14, .return_, 1, 0, 0, [])]
/-- X6_puts -/
def xm_130 : xT := (6, [xm_130_0], [], none, false, 4)
def xm_131_0 : List xEn := [(0, .iconst 1, 1, 0, 1, []), (1, .aload_n 0, 1, 0, 0, []), (2, .getfield 9, 3, 0, 0, []), (5, .iconst 3, 1, 0, 3, []), (6, .iaload, 1, 0, 0, []), (7, .ishl, 1, 0, 0, []), (8, .iconst 1, 1, 0, 1, []), (9, .isub, 1, 0, 0, []), (10, .ireturn, 1, 0, 0, [])]
/-- X6_allBows -/
def xm_131 : xT := (6, [xm_131_0], [], some .int, false, 1)
def xm_132_0 : List xEn := [(0, .iload_n 1, 1, 0, 0, []), (1, .iload_n 2, 1, 0, 0, []), (2, .bipush 10, 2, 0, 10, []), (4, .idiv, 1, 0, 0, []), (5, .iadd, 1, 0, 0, []), (6, .istore_n 3, 1, 0, 0, []), (7, .iconst 0, 1, 0, 0, []), (8, .iload_n 3, 1, 0, 0, []), (9, .iconst 0, 1, 0, 0, []), (10, .iload_n 2, 1, 0, 0, []), (11, .iload_n 1, 1, 0, 0, []), (12, .isub, 1, 0, 0, []), (13, .invokestatic 64, 3, 0, 0, []), (16, .isub, 1, 0, 0, []), (17, .invokestatic 64, 3, 0, 0, []), (20, .istore 4, 2, 0, 0, []), (22, .iload_n 0, 1, 0, 0, []), (23, .tableswitch 60 1 6 #[37, 41, 43, 46, 51, 55], 37, 83, 0, [(1, 60), (2, 64), (3, 66), (4, 69), (5, 74), (6, 78)])]
def xm_132_1 : List xEn := [(60, .iload_n 1, 1, 0, 0, []), (61, .iconst 4, 1, 0, 4, []), (62, .idiv, 1, 0, 0, []), (63, .ireturn, 1, 0, 0, [])]
def xm_132_2 : List xEn := [(64, .iload_n 3, 1, 0, 0, []), (65, .ireturn, 1, 0, 0, []), (66, .iload 4, 2, 0, 0, []), (68, .ireturn, 1, 0, 0, []), (69, .iconst 2, 1, 0, 2, []), (70, .iload 4, 2, 0, 0, []), (72, .imul, 1, 0, 0, []), (73, .ireturn, 1, 0, 0, []), (74, .iload_n 1, 1, 0, 0, []), (75, .iconst 5, 1, 0, 5, []), (76, .iadd, 1, 0, 0, []), (77, .ireturn, 1, 0, 0, []), (78, .iload_n 1, 1, 0, 0, []), (79, .bipush 25, 2, 0, 25, []), (81, .iadd, 1, 0, 0, []), (82, .ireturn, 1, 0, 0, []), (83, .iload_n 1, 1, 0, 0, []), (84, .ireturn, 1, 0, 0, [])]
/-- X6_noiseOf -/
def xm_132 : xT := (6, [xm_132_0, xm_132_1, xm_132_2], [], some .int, false, 5)
def xm_133_0 : List xEn := [(0, .aload_n 0, 1, 0, 0, []), (1, .iload_n 1, 1, 0, 0, []), (2, .iconst 0, 1, 0, 0, []), (3, .invokevirtual 68, 3, 0, 0, []), (6, .aload_n 0, 1, 0, 0, []), (7, .iload_n 1, 1, 0, 0, []), (8, .iconst 1, 1, 0, 1, []), (9, .invokevirtual 68, 3, 0, 0, []), (12, .iload_n 2, 1, 0, 0, []), (13, .invokestatic 71, 3, 0, 0, []), (16, .ireturn, 1, 0, 0, [])]
/-- X6_noiseBy -/
def xm_133 : xT := (6, [xm_133_0], [], some .int, false, 3)
def xm_134_0 : List xEn := [(0, .aload_n 0, 1, 0, 0, []), (1, .iload_n 1, 1, 0, 0, []), (2, .iconst 0, 1, 0, 0, []), (3, .invokevirtual 68, 3, 0, 0, []), (6, .istore_n 2, 1, 0, 0, []), (7, .iload_n 2, 1, 0, 0, []), (8, .iconst 1, 1, 0, 1, []), (9, .if_icmp .eq 8, 3, 17, 0, []), (12, .iload_n 2, 1, 0, 0, []), (13, .iconst 5, 1, 0, 5, []), (14, .if_icmp .ne 7, 3, 21, 0, []), (17, .iconst 0, 1, 0, 0, []), (18, .goto 36, 3, 54, 0, []), (21, .iload_n 2, 1, 0, 0, []), (22, .iconst 4, 1, 0, 4, []), (23, .if_icmp .ne 14, 3, 37, 0, []), (26, .iconst 2, 1, 0, 2, []), (27, .aload_n 0, 1, 0, 0, []), (28, .iload_n 1, 1, 0, 0, []), (29, .iconst 1, 1, 0, 1, []), (30, .invokevirtual 68, 3, 0, 0, [])]
def xm_134_1 : List xEn := [(33, .imul, 1, 0, 0, []), (34, .goto 20, 3, 54, 0, []), (37, .iload_n 2, 1, 0, 0, []), (38, .bipush 6, 2, 0, 6, []), (40, .if_icmp .ne 8, 3, 48, 0, []), (43, .bipush 50, 2, 0, 50, []), (45, .goto 9, 3, 54, 0, []), (48, .aload_n 0, 1, 0, 0, []), (49, .iload_n 1, 1, 0, 0, []), (50, .iconst 1, 1, 0, 1, []), (51, .invokevirtual 68, 3, 0, 0, []), (54, .ireturn, 1, 0, 0, [])]
/-- X6_leaves -/
def xm_134 : xT := (6, [xm_134_0, xm_134_1], [], some .int, false, 3)
def xm_135_0 : List xEn := [(0, .aload_n 0, 1, 0, 0, []), (1, .iload_n 1, 1, 0, 0, []), (2, .iconst 2, 1, 0, 2, []), (3, .invokevirtual 68, 3, 0, 0, []), (6, .istore_n 2, 1, 0, 0, []), (7, .aload_n 0, 1, 0, 0, []), (8, .iload_n 1, 1, 0, 0, []), (9, .iconst 0, 1, 0, 0, []), (10, .invokevirtual 68, 3, 0, 0, []), (13, .tableswitch 64 1 6 #[39, 64, 47, 51, 64, 56], 39, 77, 0, [(1, 52), (2, 77), (3, 60), (4, 64), (5, 77), (6, 69)])]
def xm_135_1 : List xEn := [(52, .iconst 1, 1, 0, 1, []), (53, .iload_n 2, 1, 0, 0, []), (54, .iconst 4, 1, 0, 4, []), (55, .idiv, 1, 0, 0, []), (56, .invokestatic 64, 3, 0, 0, []), (59, .ireturn, 1, 0, 0, []), (60, .iload_n 2, 1, 0, 0, []), (61, .iconst 1, 1, 0, 1, []), (62, .iadd, 1, 0, 0, []), (63, .ireturn, 1, 0, 0, [])]
def xm_135_2 : List xEn := [(64, .iload_n 2, 1, 0, 0, []), (65, .bipush 6, 2, 0, 6, []), (67, .iadd, 1, 0, 0, []), (68, .ireturn, 1, 0, 0, []), (69, .iconst 1, 1, 0, 1, []), (70, .iload_n 2, 1, 0, 0, []), (71, .iconst 2, 1, 0, 2, []), (72, .idiv, 1, 0, 0, []), (73, .invokestatic 64, 3, 0, 0, []), (76, .ireturn, 1, 0, 0, []), (77, .iload_n 2, 1, 0, 0, []), (78, .ireturn, 1, 0, 0, [])]
/-- X6_secondsOf -/
def xm_135 : xT := (6, [xm_135_0, xm_135_1, xm_135_2], [], some .int, false, 3)
def xm_136_0 : List xEn := [(0, .iload_n 1, 1, 0, 0, []), (1, .ifCond .ge 7, 3, 8, 0, []), (4, .iconst 0, 1, 0, 0, []), (5, .goto 8, 3, 13, 0, []), (8, .aload_n 0, 1, 0, 0, []), (9, .iload_n 1, 1, 0, 0, []), (10, .invokevirtual 75, 3, 0, 0, []), (13, .ireturn, 1, 0, 0, [])]
/-- X6_leftBy -/
def xm_136 : xT := (6, [xm_136_0], [], some .int, false, 2)
def xm_137_0 : List xEn := [(0, .aload_n 0, 1, 0, 0, []), (1, .getfield 9, 3, 0, 0, []), (4, .bipush 46, 2, 0, 46, []), (6, .iconst 3, 1, 0, 3, []), (7, .iload_n 1, 1, 0, 0, []), (8, .imul, 1, 0, 0, []), (9, .iadd, 1, 0, 0, []), (10, .iaload, 1, 0, 0, []), (11, .ireturn, 1, 0, 0, [])]
/-- X6_whoAt -/
def xm_137 : xT := (6, [xm_137_0], [], some .int, false, 2)
def xm_138_0 : List xEn := [(0, .iconst 0, 1, 0, 0, []), (1, .istore_n 1, 1, 0, 0, []), (2, .iconst 0, 1, 0, 0, []), (3, .istore_n 2, 1, 0, 0, []), (4, .iload_n 2, 1, 0, 0, []), (5, .aload_n 0, 1, 0, 0, []), (6, .getfield 9, 3, 0, 0, []), (9, .iconst 2, 1, 0, 2, []), (10, .iaload, 1, 0, 0, []), (11, .if_icmp .ge 19, 3, 30, 0, []), (14, .iload_n 1, 1, 0, 0, []), (15, .iconst 1, 1, 0, 1, []), (16, .aload_n 0, 1, 0, 0, []), (17, .iload_n 2, 1, 0, 0, []), (18, .invokevirtual 79, 3, 0, 0, []), (21, .ishl, 1, 0, 0, []), (22, .ior, 1, 0, 0, []), (23, .istore_n 1, 1, 0, 0, []), (24, .iinc 2 1, 3, 0, 1, []), (27, .goto (-23), 3, 4, 0, []), (30, .iload_n 1, 1, 0, 0, []), (31, .ireturn, 1, 0, 0, [])]
/-- X6_stageSet -/
def xm_138 : xT := (6, [xm_138_0], [(4, [0, 1, 2], [], [])], some .int, false, 3)
def xm_139_0 : List xEn := [(0, .aload_n 0, 1, 0, 0, []), (1, .getfield 9, 3, 0, 0, []), (4, .iconst 2, 1, 0, 2, []), (5, .iaload, 1, 0, 0, []), (6, .ifCond .ne 7, 3, 13, 0, []), (9, .iconst (-1), 1, 0, (-1), []), (10, .goto 15, 3, 25, 0, []), (13, .aload_n 0, 1, 0, 0, []), (14, .aload_n 0, 1, 0, 0, []), (15, .getfield 9, 3, 0, 0, []), (18, .iconst 2, 1, 0, 2, []), (19, .iaload, 1, 0, 0, []), (20, .iconst 1, 1, 0, 1, []), (21, .isub, 1, 0, 0, []), (22, .invokevirtual 79, 3, 0, 0, []), (25, .ireturn, 1, 0, 0, [])]
/-- X6_latest -/
def xm_139 : xT := (6, [xm_139_0], [], some .int, false, 1)
def xm_140_0 : List xEn := [(0, .iload_n 2, 1, 0, 0, []), (1, .iload_n 1, 1, 0, 0, []), (2, .invokestatic 82, 3, 0, 0, []), (5, .ifCond .ne 20, 3, 25, 0, []), (8, .aload_n 0, 1, 0, 0, []), (9, .iload_n 1, 1, 0, 0, []), (10, .iconst 3, 1, 0, 3, []), (11, .invokevirtual 68, 3, 0, 0, []), (14, .iload_n 2, 1, 0, 0, []), (15, .iconst (-1), 1, 0, (-1), []), (16, .ixor, 1, 0, 0, []), (17, .iand, 1, 0, 0, []), (18, .ifCond .ne 7, 3, 25, 0, []), (21, .iconst 1, 1, 0, 1, []), (22, .goto 4, 3, 26, 0, []), (25, .iconst 0, 1, 0, 0, []), (26, .ireturn, 1, 0, 0, [])]
/-- X6_canBehind -/
def xm_140 : xT := (6, [xm_140_0], [], some .boolean, false, 3)
def xm_141_0 : List xEn := [(0, .iconst 0, 1, 0, 0, []), (1, .istore_n 2, 1, 0, 0, []), (2, .iconst 0, 1, 0, 0, []), (3, .istore_n 3, 1, 0, 0, []), (4, .iload_n 3, 1, 0, 0, []), (5, .aload_n 0, 1, 0, 0, []), (6, .getfield 9, 3, 0, 0, []), (9, .iconst 3, 1, 0, 3, []), (10, .iaload, 1, 0, 0, []), (11, .if_icmp .ge 28, 3, 39, 0, []), (14, .iload_n 2, 1, 0, 0, []), (15, .aload_n 0, 1, 0, 0, []), (16, .iload_n 3, 1, 0, 0, []), (17, .iload_n 1, 1, 0, 0, []), (18, .invokevirtual 86, 3, 0, 0, []), (21, .ifCond .eq 9, 3, 30, 0, []), (24, .iconst 1, 1, 0, 1, []), (25, .iload_n 3, 1, 0, 0, []), (26, .ishl, 1, 0, 0, []), (27, .goto 4, 3, 31, 0, []), (30, .iconst 0, 1, 0, 0, []), (31, .ior, 1, 0, 0, [])]
def xm_141_1 : List xEn := [(32, .istore_n 2, 1, 0, 0, []), (33, .iinc 3 1, 3, 0, 1, []), (36, .goto (-32), 3, 4, 0, []), (39, .iload_n 2, 1, 0, 0, []), (40, .ireturn, 1, 0, 0, [])]
/-- X6_canSet -/
def xm_141 : xT := (6, [xm_141_0, xm_141_1], [(4, [0, 1, 2, 3], [], [])], some .int, false, 4)
def xm_142_0 : List xEn := [(0, .aload_n 0, 1, 0, 0, []), (1, .iload_n 1, 1, 0, 0, []), (2, .aload_n 0, 1, 0, 0, []), (3, .aload_n 0, 1, 0, 0, []), (4, .invokevirtual 89, 3, 0, 0, []), (7, .invokevirtual 93, 3, 0, 0, []), (10, .invokevirtual 96, 3, 0, 0, []), (13, .istore_n 2, 1, 0, 0, []), (14, .bipush 46, 2, 0, 46, []), (16, .iconst 3, 1, 0, 3, []), (17, .aload_n 0, 1, 0, 0, []), (18, .getfield 9, 3, 0, 0, []), (21, .iconst 2, 1, 0, 2, []), (22, .iaload, 1, 0, 0, []), (23, .imul, 1, 0, 0, []), (24, .iadd, 1, 0, 0, []), (25, .istore_n 3, 1, 0, 0, []), (26, .aload_n 0, 1, 0, 0, []), (27, .getfield 9, 3, 0, 0, []), (30, .iload_n 3, 1, 0, 0, []), (31, .iload_n 1, 1, 0, 0, [])]
def xm_142_1 : List xEn := [(32, .iastore, 1, 0, 0, []), (33, .aload_n 0, 1, 0, 0, []), (34, .getfield 9, 3, 0, 0, []), (37, .iload_n 3, 1, 0, 0, []), (38, .iconst 1, 1, 0, 1, []), (39, .iadd, 1, 0, 0, []), (40, .iload_n 2, 1, 0, 0, []), (41, .iastore, 1, 0, 0, []), (42, .aload_n 0, 1, 0, 0, []), (43, .getfield 9, 3, 0, 0, []), (46, .iload_n 3, 1, 0, 0, []), (47, .iconst 2, 1, 0, 2, []), (48, .iadd, 1, 0, 0, []), (49, .aload_n 0, 1, 0, 0, []), (50, .iload_n 1, 1, 0, 0, []), (51, .invokevirtual 99, 3, 0, 0, []), (54, .iastore, 1, 0, 0, []), (55, .aload_n 0, 1, 0, 0, []), (56, .getfield 9, 3, 0, 0, []), (59, .iconst 2, 1, 0, 2, []), (60, .dup2, 1, 0, 0, []), (61, .iaload, 1, 0, 0, []), (62, .iconst 1, 1, 0, 1, []), (63, .iadd, 1, 0, 0, [])]
def xm_142_2 : List xEn := [(64, .iastore, 1, 0, 0, []), (65, .aload_n 0, 1, 0, 0, []), (66, .getfield 9, 3, 0, 0, []), (69, .iconst 0, 1, 0, 0, []), (70, .dup2, 1, 0, 0, []), (71, .iaload, 1, 0, 0, []), (72, .iload_n 2, 1, 0, 0, []), (73, .iadd, 1, 0, 0, []), (74, .iastore, 1, 0, 0, []), (75, .aload_n 0, 1, 0, 0, []), (76, .getfield 9, 3, 0, 0, []), (79, .iconst 1, 1, 0, 1, []), (80, .dup2, 1, 0, 0, []), (81, .iaload, 1, 0, 0, []), (82, .aload_n 0, 1, 0, 0, []), (83, .getfield 9, 3, 0, 0, []), (86, .iload_n 3, 1, 0, 0, []), (87, .iconst 2, 1, 0, 2, []), (88, .iadd, 1, 0, 0, []), (89, .iaload, 1, 0, 0, []), (90, .iadd, 1, 0, 0, []), (91, .iastore, 1, 0, 0, []), (92, .iload_n 2, 1, 0, 0, []), (93, .ireturn, 1, 0, 0, [])]
/-- X6_comes -/
def xm_142 : xT := (6, [xm_142_0, xm_142_1, xm_142_2], [], some .int, false, 4)
def xm_143_0 : List xEn := [(0, .aload_n 0, 1, 0, 0, []), (1, .getfield 9, 3, 0, 0, []), (4, .iconst 3, 1, 0, 3, []), (5, .iaload, 1, 0, 0, []), (6, .istore_n 2, 1, 0, 0, []), (7, .aload_n 0, 1, 0, 0, []), (8, .iload_n 2, 1, 0, 0, []), (9, .iconst 0, 1, 0, 0, []), (10, .iload_n 1, 1, 0, 0, []), (11, .invokevirtual 102, 3, 0, 0, []), (14, .aload_n 0, 1, 0, 0, []), (15, .iload_n 2, 1, 0, 0, []), (16, .iconst 1, 1, 0, 1, []), (17, .bipush 10, 2, 0, 10, []), (19, .invokevirtual 102, 3, 0, 0, []), (22, .aload_n 0, 1, 0, 0, []), (23, .iload_n 2, 1, 0, 0, []), (24, .iconst 2, 1, 0, 2, []), (25, .iconst 5, 1, 0, 5, []), (26, .invokevirtual 102, 3, 0, 0, []), (29, .aload_n 0, 1, 0, 0, []), (30, .iload_n 2, 1, 0, 0, []), (31, .iconst 3, 1, 0, 3, [])]
def xm_143_1 : List xEn := [(32, .iconst 0, 1, 0, 0, []), (33, .invokevirtual 102, 3, 0, 0, []), (36, .aload_n 0, 1, 0, 0, []), (37, .getfield 9, 3, 0, 0, []), (40, .iconst 3, 1, 0, 3, []), (41, .dup2, 1, 0, 0, []), (42, .iaload, 1, 0, 0, []), (43, .iconst 1, 1, 0, 1, []), (44, .iadd, 1, 0, 0, []), (45, .iastore, 1, 0, 0, []), (46, .return_, 1, 0, 0, [])]
/-- X6_addsBow -/
def xm_143 : xT := (6, [xm_143_0, xm_143_1], [], none, false, 3)
def xm_144_0 : List xEn := [(0, .iload_n 1, 1, 0, 0, []), (1, .iconst 0, 1, 0, 0, []), (2, .bipush 6, 2, 0, 6, []), (4, .invokestatic 60, 3, 0, 0, []), (7, .ifCond .ne 9, 3, 16, 0, []), (10, .aload_n 0, 1, 0, 0, []), (11, .iconst 0, 1, 0, 0, []), (12, .invokevirtual 106, 3, 0, 0, []), (15, .ireturn, 1, 0, 0, []), (16, .aload_n 0, 1, 0, 0, []), (17, .getfield 9, 3, 0, 0, []), (20, .iconst 3, 1, 0, 3, []), (21, .iaload, 1, 0, 0, []), (22, .bipush 9, 2, 0, 9, []), (24, .if_icmp .ne 9, 3, 33, 0, []), (27, .aload_n 0, 1, 0, 0, []), (28, .iconst 1, 1, 0, 1, []), (29, .invokevirtual 106, 3, 0, 0, [])]
def xm_144_1 : List xEn := [(32, .ireturn, 1, 0, 0, []), (33, .aload_n 0, 1, 0, 0, []), (34, .iload_n 1, 1, 0, 0, []), (35, .invokevirtual 109, 3, 0, 0, []), (38, .aload_n 0, 1, 0, 0, []), (39, .getfield 9, 3, 0, 0, []), (42, .iconst 3, 1, 0, 3, []), (43, .iaload, 1, 0, 0, []), (44, .iconst 1, 1, 0, 1, []), (45, .isub, 1, 0, 0, []), (46, .ireturn, 1, 0, 0, [])]
/-- X6_bow -/
def xm_144 : xT := (6, [xm_144_0, xm_144_1], [(15, [], [5300, 5600], []), (32, [], [5300, 5600], []), (46, [], [5300, 5600], [])], some .int, false, 2)
def xm_145_0 : List xEn := [(0, .aload_n 0, 1, 0, 0, []), (1, .iload_n 1, 1, 0, 0, []), (2, .invokevirtual 113, 3, 0, 0, []), (5, .ifCond .eq 13, 3, 18, 0, []), (8, .iload_n 2, 1, 0, 0, []), (9, .iconst 0, 1, 0, 0, []), (10, .bipush 6, 2, 0, 6, []), (12, .invokestatic 60, 3, 0, 0, []), (15, .ifCond .ne 9, 3, 24, 0, []), (18, .aload_n 0, 1, 0, 0, []), (19, .iconst 0, 1, 0, 0, []), (20, .invokevirtual 106, 3, 0, 0, []), (23, .ireturn, 1, 0, 0, []), (24, .iload_n 2, 1, 0, 0, []), (25, .iconst 4, 1, 0, 4, []), (26, .if_icmp .ge 12, 3, 38, 0, []), (29, .aload_n 0, 1, 0, 0, []), (30, .iload_n 1, 1, 0, 0, []), (31, .iload_n 2, 1, 0, 0, [])]
def xm_145_1 : List xEn := [(32, .invokevirtual 68, 3, 0, 0, []), (35, .goto 42, 3, 77, 0, []), (38, .iload_n 2, 1, 0, 0, []), (39, .iconst 4, 1, 0, 4, []), (40, .if_icmp .ne 11, 3, 51, 0, []), (43, .aload_n 0, 1, 0, 0, []), (44, .iload_n 1, 1, 0, 0, []), (45, .invokevirtual 75, 3, 0, 0, []), (48, .goto 29, 3, 77, 0, []), (51, .iload_n 2, 1, 0, 0, []), (52, .iconst 5, 1, 0, 5, []), (53, .if_icmp .ne 11, 3, 64, 0, []), (56, .aload_n 0, 1, 0, 0, []), (57, .iload_n 1, 1, 0, 0, []), (58, .invokevirtual 99, 3, 0, 0, []), (61, .goto 16, 3, 77, 0, [])]
def xm_145_2 : List xEn := [(64, .aload_n 0, 1, 0, 0, []), (65, .iload_n 1, 1, 0, 0, []), (66, .aload_n 0, 1, 0, 0, []), (67, .aload_n 0, 1, 0, 0, []), (68, .invokevirtual 89, 3, 0, 0, []), (71, .invokevirtual 93, 3, 0, 0, []), (74, .invokevirtual 96, 3, 0, 0, []), (77, .ireturn, 1, 0, 0, [])]
/-- X6_of -/
def xm_145 : xT := (6, [xm_145_0, xm_145_1, xm_145_2], [(77, [], [5600], [])], some .int, false, 3)
def xm_146_0 : List xEn := [(0, .aload_n 0, 1, 0, 0, []), (1, .iload_n 1, 1, 0, 0, []), (2, .invokevirtual 113, 3, 0, 0, []), (5, .ifCond .eq 12, 3, 17, 0, []), (8, .iload_n 2, 1, 0, 0, []), (9, .iconst 0, 1, 0, 0, []), (10, .iconst 3, 1, 0, 3, []), (11, .invokestatic 60, 3, 0, 0, []), (14, .ifCond .ne 9, 3, 23, 0, []), (17, .aload_n 0, 1, 0, 0, []), (18, .iconst 0, 1, 0, 0, []), (19, .invokevirtual 106, 3, 0, 0, []), (22, .ireturn, 1, 0, 0, []), (23, .iload_n 2, 1, 0, 0, []), (24, .ifCond .ne 8, 3, 32, 0, []), (27, .bipush 6, 2, 0, 6, []), (29, .goto 27, 3, 56, 0, [])]
def xm_146_1 : List xEn := [(32, .iload_n 2, 1, 0, 0, []), (33, .iconst 1, 1, 0, 1, []), (34, .if_icmp .ne 8, 3, 42, 0, []), (37, .bipush 99, 2, 0, 99, []), (39, .goto 17, 3, 56, 0, []), (42, .iload_n 2, 1, 0, 0, []), (43, .iconst 2, 1, 0, 2, []), (44, .if_icmp .ne 8, 3, 52, 0, []), (47, .bipush 60, 2, 0, 60, []), (49, .goto 7, 3, 56, 0, []), (52, .aload_n 0, 1, 0, 0, []), (53, .invokevirtual 117, 3, 0, 0, []), (56, .istore 4, 2, 0, 0, []), (58, .iload_n 3, 1, 0, 0, []), (59, .iload_n 2, 1, 0, 0, []), (60, .iconst 2, 1, 0, 2, []), (61, .if_icmp .ne 7, 3, 68, 0, [])]
def xm_146_2 : List xEn := [(64, .iconst 1, 1, 0, 1, []), (65, .goto 4, 3, 69, 0, []), (68, .iconst 0, 1, 0, 0, []), (69, .iload 4, 2, 0, 0, []), (71, .invokestatic 60, 3, 0, 0, []), (74, .ifCond .eq 16, 3, 90, 0, []), (77, .iload_n 2, 1, 0, 0, []), (78, .iconst 3, 1, 0, 3, []), (79, .if_icmp .ne 17, 3, 96, 0, []), (82, .iload_n 3, 1, 0, 0, []), (83, .iload_n 1, 1, 0, 0, []), (84, .invokestatic 82, 3, 0, 0, []), (87, .ifCond .eq 9, 3, 96, 0, []), (90, .aload_n 0, 1, 0, 0, []), (91, .iconst 0, 1, 0, 0, []), (92, .invokevirtual 106, 3, 0, 0, []), (95, .ireturn, 1, 0, 0, [])]
def xm_146_3 : List xEn := [(96, .aload_n 0, 1, 0, 0, []), (97, .iload_n 1, 1, 0, 0, []), (98, .iload_n 2, 1, 0, 0, []), (99, .invokevirtual 68, 3, 0, 0, []), (102, .istore 5, 2, 0, 0, []), (104, .aload_n 0, 1, 0, 0, []), (105, .iload_n 1, 1, 0, 0, []), (106, .iload_n 2, 1, 0, 0, []), (107, .iload_n 3, 1, 0, 0, []), (108, .invokevirtual 102, 3, 0, 0, []), (111, .iload 5, 2, 0, 0, []), (113, .ireturn, 1, 0, 0, [])]
/-- X6_change -/
def xm_146 : xT := (6, [xm_146_0, xm_146_1, xm_146_2, xm_146_3], [(22, [], [5300, 5600], []), (56, [0, 1, 2, 3], [], []), (69, [0, 1, 2, 3, 4], [], []), (95, [], [5300, 5600], []), (96, [0, 1, 2, 3], [], []), (113, [], [5300, 5600], [])], some .int, false, 6)
def xm_147_0 : List xEn := [(0, .aload_n 0, 1, 0, 0, []), (1, .iload_n 1, 1, 0, 0, []), (2, .invokevirtual 113, 3, 0, 0, []), (5, .ifCond .eq 25, 3, 30, 0, []), (8, .aload_n 0, 1, 0, 0, []), (9, .iload_n 2, 1, 0, 0, []), (10, .invokevirtual 113, 3, 0, 0, []), (13, .ifCond .eq 17, 3, 30, 0, []), (16, .iload_n 1, 1, 0, 0, []), (17, .iload_n 2, 1, 0, 0, []), (18, .if_icmp .eq 12, 3, 30, 0, []), (21, .iload_n 3, 1, 0, 0, []), (22, .iconst 0, 1, 0, 0, []), (23, .iconst 1, 1, 0, 1, []), (24, .invokestatic 60, 3, 0, 0, []), (27, .ifCond .ne 9, 3, 36, 0, []), (30, .aload_n 0, 1, 0, 0, []), (31, .iconst 0, 1, 0, 0, [])]
def xm_147_1 : List xEn := [(32, .invokevirtual 106, 3, 0, 0, []), (35, .ireturn, 1, 0, 0, []), (36, .aload_n 0, 1, 0, 0, []), (37, .iload_n 2, 1, 0, 0, []), (38, .iconst 3, 1, 0, 3, []), (39, .invokevirtual 68, 3, 0, 0, []), (42, .istore 4, 2, 0, 0, []), (44, .aload_n 0, 1, 0, 0, []), (45, .iload_n 2, 1, 0, 0, []), (46, .iconst 3, 1, 0, 3, []), (47, .iload_n 3, 1, 0, 0, []), (48, .iconst 1, 1, 0, 1, []), (49, .if_icmp .ne 12, 3, 61, 0, []), (52, .iload 4, 2, 0, 0, []), (54, .iconst 1, 1, 0, 1, []), (55, .iload_n 1, 1, 0, 0, []), (56, .ishl, 1, 0, 0, []), (57, .ior, 1, 0, 0, []), (58, .goto 11, 3, 69, 0, []), (61, .iload 4, 2, 0, 0, []), (63, .iconst 1, 1, 0, 1, [])]
def xm_147_2 : List xEn := [(64, .iload_n 1, 1, 0, 0, []), (65, .ishl, 1, 0, 0, []), (66, .iconst (-1), 1, 0, (-1), []), (67, .ixor, 1, 0, 0, []), (68, .iand, 1, 0, 0, []), (69, .invokevirtual 102, 3, 0, 0, []), (72, .iload 4, 2, 0, 0, []), (74, .aload_n 0, 1, 0, 0, []), (75, .iload_n 2, 1, 0, 0, []), (76, .iconst 3, 1, 0, 3, []), (77, .invokevirtual 68, 3, 0, 0, []), (80, .if_icmp .ne 7, 3, 87, 0, []), (83, .iconst 0, 1, 0, 0, []), (84, .goto 4, 3, 88, 0, []), (87, .iconst 1, 1, 0, 1, []), (88, .ireturn, 1, 0, 0, [])]
/-- X6_contract -/
def xm_147 : xT := (6, [xm_147_0, xm_147_1, xm_147_2], [(35, [], [5300, 5600], []), (69, [0, 2, 4], [], []), (88, [], [5300, 5600], [])], some .int, false, 5)
def xm_148_0 : List xEn := [(0, .iload_n 0, 1, 0, 0, []), (1, .ifCond .ne 8, 3, 9, 0, []), (4, .bipush 9, 2, 0, 9, []), (6, .goto 26, 3, 32, 0, []), (9, .iload_n 0, 1, 0, 0, []), (10, .iconst 1, 1, 0, 1, []), (11, .if_icmp .ne 8, 3, 19, 0, []), (14, .bipush 10, 2, 0, 10, []), (16, .goto 16, 3, 32, 0, []), (19, .iload_n 0, 1, 0, 0, []), (20, .iconst 4, 1, 0, 4, []), (21, .if_icmp .ne 9, 3, 30, 0, []), (24, .sipush 999, 3, 0, 999, []), (27, .goto 5, 3, 32, 0, []), (30, .bipush 99, 2, 0, 99, [])]
def xm_148_1 : List xEn := [(32, .ireturn, 1, 0, 0, [])]
/-- X6_greatestRule -/
def xm_148 : xT := (6, [xm_148_0, xm_148_1], [], some .int, false, 1)
def xm_149_0 : List xEn := [(0, .iload_n 1, 1, 0, 0, []), (1, .iconst 0, 1, 0, 0, []), (2, .iconst 4, 1, 0, 4, []), (3, .invokestatic 60, 3, 0, 0, []), (6, .ifCond .eq 15, 3, 21, 0, []), (9, .iload_n 2, 1, 0, 0, []), (10, .iconst 0, 1, 0, 0, []), (11, .iload_n 1, 1, 0, 0, []), (12, .invokestatic 120, 3, 0, 0, []), (15, .invokestatic 60, 3, 0, 0, []), (18, .ifCond .ne 9, 3, 27, 0, []), (21, .aload_n 0, 1, 0, 0, []), (22, .iconst 0, 1, 0, 0, []), (23, .invokevirtual 106, 3, 0, 0, []), (26, .ireturn, 1, 0, 0, []), (27, .aload_n 0, 1, 0, 0, []), (28, .getfield 9, 3, 0, 0, []), (31, .iconst 5, 1, 0, 5, [])]
def xm_149_1 : List xEn := [(32, .iload_n 1, 1, 0, 0, []), (33, .iadd, 1, 0, 0, []), (34, .iaload, 1, 0, 0, []), (35, .istore_n 3, 1, 0, 0, []), (36, .aload_n 0, 1, 0, 0, []), (37, .getfield 9, 3, 0, 0, []), (40, .iconst 5, 1, 0, 5, []), (41, .iload_n 1, 1, 0, 0, []), (42, .iadd, 1, 0, 0, []), (43, .iload_n 2, 1, 0, 0, []), (44, .iastore, 1, 0, 0, []), (45, .iload_n 3, 1, 0, 0, []), (46, .ireturn, 1, 0, 0, [])]
/-- X6_rule -/
def xm_149 : xT := (6, [xm_149_0, xm_149_1], [(26, [], [5300, 5600], []), (46, [], [5300, 5600], [])], some .int, false, 4)
def xm_150_0 : List xEn := [(0, .aload_n 0, 1, 0, 0, []), (1, .iload_n 1, 1, 0, 0, []), (2, .invokevirtual 113, 3, 0, 0, []), (5, .ifCond .eq 23, 3, 28, 0, []), (8, .iload_n 2, 1, 0, 0, []), (9, .iconst 0, 1, 0, 0, []), (10, .sipush 999, 3, 0, 999, []), (13, .invokestatic 60, 3, 0, 0, []), (16, .ifCond .eq 12, 3, 28, 0, []), (19, .aload_n 0, 1, 0, 0, []), (20, .iload_n 1, 1, 0, 0, []), (21, .iload_n 2, 1, 0, 0, []), (22, .invokevirtual 96, 3, 0, 0, []), (25, .goto 8, 3, 33, 0, []), (28, .aload_n 0, 1, 0, 0, []), (29, .iconst 0, 1, 0, 0, []), (30, .invokevirtual 106, 3, 0, 0, [])]
def xm_150_1 : List xEn := [(33, .ireturn, 1, 0, 0, [])]
/-- X6_noise -/
def xm_150 : xT := (6, [xm_150_0, xm_150_1], [(33, [], [5600], [])], some .int, false, 3)
def xm_151_0 : List xEn := [(0, .aload_n 0, 1, 0, 0, []), (1, .iload_n 1, 1, 0, 0, []), (2, .invokevirtual 113, 3, 0, 0, []), (5, .ifCond .ne 9, 3, 14, 0, []), (8, .aload_n 0, 1, 0, 0, []), (9, .iconst 0, 1, 0, 0, []), (10, .invokevirtual 106, 3, 0, 0, []), (13, .ireturn, 1, 0, 0, []), (14, .aload_n 0, 1, 0, 0, []), (15, .iload_n 1, 1, 0, 0, []), (16, .aload_n 0, 1, 0, 0, []), (17, .invokevirtual 123, 3, 0, 0, []), (20, .invokevirtual 86, 3, 0, 0, []), (23, .ifCond .eq 11, 3, 34, 0, []), (26, .aload_n 0, 1, 0, 0, []), (27, .iload_n 1, 1, 0, 0, []), (28, .invokevirtual 126, 3, 0, 0, []), (31, .goto 8, 3, 39, 0, [])]
def xm_151_1 : List xEn := [(34, .aload_n 0, 1, 0, 0, []), (35, .iconst 4, 1, 0, 4, []), (36, .invokevirtual 106, 3, 0, 0, []), (39, .ireturn, 1, 0, 0, [])]
/-- X6_come -/
def xm_151 : xT := (6, [xm_151_0, xm_151_1], [(13, [], [5300, 5600], []), (39, [], [5300, 5600], [])], some .int, false, 2)
def xm_152_0 : List xEn := [(0, .aload_n 0, 1, 0, 0, []), (1, .getfield 9, 3, 0, 0, []), (4, .iconst 2, 1, 0, 2, []), (5, .iaload, 1, 0, 0, []), (6, .ifCond .ne 9, 3, 15, 0, []), (9, .aload_n 0, 1, 0, 0, []), (10, .iconst 3, 1, 0, 3, []), (11, .invokevirtual 106, 3, 0, 0, []), (14, .ireturn, 1, 0, 0, []), (15, .aload_n 0, 1, 0, 0, []), (16, .getfield 9, 3, 0, 0, []), (19, .iconst 2, 1, 0, 2, []), (20, .dup2, 1, 0, 0, []), (21, .iaload, 1, 0, 0, []), (22, .iconst 1, 1, 0, 1, []), (23, .isub, 1, 0, 0, []), (24, .iastore, 1, 0, 0, []), (25, .bipush 46, 2, 0, 46, []), (27, .iconst 3, 1, 0, 3, []), (28, .aload_n 0, 1, 0, 0, []), (29, .getfield 9, 3, 0, 0, [])]
def xm_152_1 : List xEn := [(32, .iconst 2, 1, 0, 2, []), (33, .iaload, 1, 0, 0, []), (34, .imul, 1, 0, 0, []), (35, .iadd, 1, 0, 0, []), (36, .istore_n 1, 1, 0, 0, []), (37, .aload_n 0, 1, 0, 0, []), (38, .getfield 9, 3, 0, 0, []), (41, .iconst 0, 1, 0, 0, []), (42, .dup2, 1, 0, 0, []), (43, .iaload, 1, 0, 0, []), (44, .aload_n 0, 1, 0, 0, []), (45, .getfield 9, 3, 0, 0, []), (48, .iload_n 1, 1, 0, 0, []), (49, .iconst 1, 1, 0, 1, []), (50, .iadd, 1, 0, 0, []), (51, .iaload, 1, 0, 0, []), (52, .isub, 1, 0, 0, []), (53, .iastore, 1, 0, 0, []), (54, .aload_n 0, 1, 0, 0, []), (55, .getfield 9, 3, 0, 0, []), (58, .iconst 1, 1, 0, 1, []), (59, .dup2, 1, 0, 0, []), (60, .iaload, 1, 0, 0, []), (61, .aload_n 0, 1, 0, 0, []), (62, .getfield 9, 3, 0, 0, [])]
def xm_152_2 : List xEn := [(65, .iload_n 1, 1, 0, 0, []), (66, .iconst 2, 1, 0, 2, []), (67, .iadd, 1, 0, 0, []), (68, .iaload, 1, 0, 0, []), (69, .isub, 1, 0, 0, []), (70, .iastore, 1, 0, 0, []), (71, .aload_n 0, 1, 0, 0, []), (72, .getfield 9, 3, 0, 0, []), (75, .iload_n 1, 1, 0, 0, []), (76, .iaload, 1, 0, 0, []), (77, .ireturn, 1, 0, 0, [])]
/-- X6_back -/
def xm_152 : xT := (6, [xm_152_0, xm_152_1, xm_152_2], [(14, [], [5300, 5600], []), (77, [], [5300, 5600], [])], some .int, false, 2)
def xm_153_0 : List xEn := [(0, .aload_n 0, 1, 0, 0, []), (1, .getfield 9, 3, 0, 0, []), (4, .iconst 2, 1, 0, 2, []), (5, .iaload, 1, 0, 0, []), (6, .istore_n 1, 1, 0, 0, []), (7, .aload_n 0, 1, 0, 0, []), (8, .getfield 9, 3, 0, 0, []), (11, .iconst 2, 1, 0, 2, []), (12, .iconst 0, 1, 0, 0, []), (13, .iastore, 1, 0, 0, []), (14, .aload_n 0, 1, 0, 0, []), (15, .getfield 9, 3, 0, 0, []), (18, .iconst 0, 1, 0, 0, []), (19, .iconst 0, 1, 0, 0, []), (20, .iastore, 1, 0, 0, []), (21, .aload_n 0, 1, 0, 0, []), (22, .getfield 9, 3, 0, 0, []), (25, .iconst 1, 1, 0, 1, []), (26, .iconst 0, 1, 0, 0, []), (27, .iastore, 1, 0, 0, []), (28, .iload_n 1, 1, 0, 0, []), (29, .ireturn, 1, 0, 0, [])]
/-- X6_clear -/
def xm_153 : xT := (6, [xm_153_0], [], some .int, false, 2)
def xm_154_0 : List xEn := [(0, .iload_n 1, 1, 0, 0, []), (1, .ifCond .ge 9, 3, 10, 0, []), (4, .aload_n 0, 1, 0, 0, []), (5, .iconst 0, 1, 0, 0, []), (6, .invokevirtual 106, 3, 0, 0, []), (9, .ireturn, 1, 0, 0, []), (10, .iload_n 1, 1, 0, 0, []), (11, .aload_n 0, 1, 0, 0, []), (12, .getfield 9, 3, 0, 0, []), (15, .iconst 2, 1, 0, 2, []), (16, .iaload, 1, 0, 0, []), (17, .if_icmp .ge 11, 3, 28, 0, []), (20, .aload_n 0, 1, 0, 0, []), (21, .iload_n 1, 1, 0, 0, []), (22, .invokevirtual 79, 3, 0, 0, []), (25, .goto 8, 3, 33, 0, []), (28, .aload_n 0, 1, 0, 0, []), (29, .iconst 3, 1, 0, 3, []), (30, .invokevirtual 106, 3, 0, 0, [])]
def xm_154_1 : List xEn := [(33, .ireturn, 1, 0, 0, [])]
/-- X6_stood -/
def xm_154 : xT := (6, [xm_154_0, xm_154_1], [(33, [], [5600], [])], some .int, false, 2)
def xm_155_0 : List xEn := [(0, .iconst 0, 1, 0, 0, []), (1, .istore_n 1, 1, 0, 0, []), (2, .iconst 0, 1, 0, 0, []), (3, .istore_n 2, 1, 0, 0, []), (4, .iload_n 2, 1, 0, 0, []), (5, .aload_n 0, 1, 0, 0, []), (6, .getfield 9, 3, 0, 0, []), (9, .iconst 2, 1, 0, 2, []), (10, .iaload, 1, 0, 0, []), (11, .if_icmp .ge 49, 3, 60, 0, []), (14, .iload_n 1, 1, 0, 0, []), (15, .iload_n 2, 1, 0, 0, []), (16, .ifCond .ne 7, 3, 23, 0, []), (19, .iconst 0, 1, 0, 0, []), (20, .goto 14, 3, 34, 0, []), (23, .aload_n 0, 1, 0, 0, []), (24, .aload_n 0, 1, 0, 0, []), (25, .iload_n 2, 1, 0, 0, []), (26, .iconst 1, 1, 0, 1, []), (27, .isub, 1, 0, 0, []), (28, .invokevirtual 79, 3, 0, 0, []), (31, .invokevirtual 75, 3, 0, 0, [])]
def xm_155_1 : List xEn := [(34, .aload_n 0, 1, 0, 0, []), (35, .aload_n 0, 1, 0, 0, []), (36, .iload_n 2, 1, 0, 0, []), (37, .invokevirtual 79, 3, 0, 0, []), (40, .iconst 1, 1, 0, 1, []), (41, .invokevirtual 68, 3, 0, 0, []), (44, .if_icmp .le 7, 3, 51, 0, []), (47, .iconst 1, 1, 0, 1, []), (48, .goto 4, 3, 52, 0, []), (51, .iconst 0, 1, 0, 0, []), (52, .iadd, 1, 0, 0, []), (53, .istore_n 1, 1, 0, 0, []), (54, .iinc 2 1, 3, 0, 1, []), (57, .goto (-53), 3, 4, 0, []), (60, .iload_n 1, 1, 0, 0, []), (61, .ireturn, 1, 0, 0, [])]
/-- X6_fallsOfStage -/
def xm_155 : xT := (6, [xm_155_0, xm_155_1], [(4, [0, 1, 2], [], []), (34, [0, 2], [], [])], some .int, false, 3)
def xm_156_0 : List xEn := [(0, .iload_n 1, 1, 0, 0, []), (1, .tableswitch 79 0 5 #[39, 46, 53, 60, 65, 74], 39, 80, 0, [(0, 40), (1, 47), (2, 54), (3, 61), (4, 66), (5, 75)])]
def xm_156_1 : List xEn := [(40, .aload_n 0, 1, 0, 0, []), (41, .getfield 9, 3, 0, 0, []), (44, .iconst 2, 1, 0, 2, []), (45, .iaload, 1, 0, 0, []), (46, .ireturn, 1, 0, 0, []), (47, .aload_n 0, 1, 0, 0, []), (48, .getfield 9, 3, 0, 0, []), (51, .iconst 0, 1, 0, 0, []), (52, .iaload, 1, 0, 0, []), (53, .ireturn, 1, 0, 0, []), (54, .aload_n 0, 1, 0, 0, []), (55, .getfield 9, 3, 0, 0, []), (58, .iconst 1, 1, 0, 1, []), (59, .iaload, 1, 0, 0, []), (60, .ireturn, 1, 0, 0, []), (61, .aload_n 0, 1, 0, 0, []), (62, .invokevirtual 123, 3, 0, 0, [])]
def xm_156_2 : List xEn := [(65, .ireturn, 1, 0, 0, []), (66, .aload_n 0, 1, 0, 0, []), (67, .aload_n 0, 1, 0, 0, []), (68, .invokevirtual 123, 3, 0, 0, []), (71, .invokevirtual 129, 3, 0, 0, []), (74, .ireturn, 1, 0, 0, []), (75, .aload_n 0, 1, 0, 0, []), (76, .invokevirtual 132, 3, 0, 0, []), (79, .ireturn, 1, 0, 0, []), (80, .aload_n 0, 1, 0, 0, []), (81, .iconst 0, 1, 0, 0, []), (82, .invokevirtual 106, 3, 0, 0, []), (85, .ireturn, 1, 0, 0, [])]
/-- X6_now -/
def xm_156 : xT := (6, [xm_156_0, xm_156_1, xm_156_2], [(46, [], [5600], []), (53, [], [5600], []), (60, [], [5600], []), (65, [], [5600], []), (74, [], [5600], []), (79, [], [5600], [])], some .int, false, 2)
def xm_157_0 : List xEn := [(0, .aload_n 0, 1, 0, 0, []), (1, .iload_n 3, 1, 0, 0, []), (2, .invokevirtual 93, 3, 0, 0, []), (5, .istore 4, 2, 0, 0, []), (7, .iload_n 1, 1, 0, 0, []), (8, .ifCond .ne 13, 3, 21, 0, []), (11, .aload_n 0, 1, 0, 0, []), (12, .iload_n 2, 1, 0, 0, []), (13, .iload 4, 2, 0, 0, []), (15, .invokevirtual 96, 3, 0, 0, []), (18, .goto 19, 3, 37, 0, []), (21, .iload 4, 2, 0, 0, []), (23, .aload_n 0, 1, 0, 0, []), (24, .iload_n 2, 1, 0, 0, []), (25, .iconst 1, 1, 0, 1, []), (26, .invokevirtual 68, 3, 0, 0, []), (29, .if_icmp .le 7, 3, 36, 0, [])]
def xm_157_1 : List xEn := [(32, .iconst (-1), 1, 0, (-1), []), (33, .goto 4, 3, 37, 0, []), (36, .iconst 0, 1, 0, 0, []), (37, .ireturn, 1, 0, 0, [])]
/-- X6_brings -/
def xm_157 : xT := (6, [xm_157_0, xm_157_1], [], some .int, false, 5)
def xm_158_0 : List xEn := [(0, .aload_n 0, 1, 0, 0, []), (1, .invokevirtual 123, 3, 0, 0, []), (4, .istore_n 2, 1, 0, 0, []), (5, .aload_n 0, 1, 0, 0, []), (6, .invokevirtual 117, 3, 0, 0, []), (9, .istore_n 3, 1, 0, 0, []), (10, .iload_n 3, 1, 0, 0, []), (11, .istore 4, 2, 0, 0, []), (13, .iload 4, 2, 0, 0, []), (15, .iload_n 2, 1, 0, 0, []), (16, .if_icmp .lt 156, 3, 172, 0, []), (19, .iconst (-1), 1, 0, (-1), []), (20, .istore 5, 2, 0, 0, []), (22, .iload 5, 2, 0, 0, []), (24, .aload_n 0, 1, 0, 0, []), (25, .getfield 9, 3, 0, 0, []), (28, .iconst 3, 1, 0, 3, []), (29, .iaload, 1, 0, 0, []), (30, .if_icmp .ge 136, 3, 166, 0, [])]
def xm_158_1 : List xEn := [(33, .iload 4, 2, 0, 0, []), (35, .iload_n 3, 1, 0, 0, []), (36, .if_icmp .ne 7, 3, 43, 0, []), (39, .iconst 0, 1, 0, 0, []), (40, .goto 5, 3, 45, 0, []), (43, .ldc 135, 2, 0, 0, []), (45, .istore 6, 2, 0, 0, []), (47, .iconst 0, 1, 0, 0, []), (48, .istore 7, 2, 0, 0, []), (50, .iload 7, 2, 0, 0, []), (52, .aload_n 0, 1, 0, 0, []), (53, .getfield 9, 3, 0, 0, []), (56, .iconst 3, 1, 0, 3, []), (57, .iaload, 1, 0, 0, []), (58, .if_icmp .ge 85, 3, 143, 0, []), (61, .iload 4, 2, 0, 0, []), (63, .iload_n 2, 1, 0, 0, [])]
def xm_158_2 : List xEn := [(64, .iand, 1, 0, 0, []), (65, .iload_n 2, 1, 0, 0, []), (66, .if_icmp .ne 77, 3, 143, 0, []), (69, .aload_n 0, 1, 0, 0, []), (70, .iload 7, 2, 0, 0, []), (72, .iload 4, 2, 0, 0, []), (74, .invokevirtual 86, 3, 0, 0, []), (77, .ifCond .eq 60, 3, 137, 0, []), (80, .aload_n 0, 1, 0, 0, []), (81, .getfield 22, 3, 0, 0, []), (84, .bipush 10, 2, 0, 10, []), (86, .iload 4, 2, 0, 0, []), (88, .iconst 1, 1, 0, 1, []), (89, .iload 7, 2, 0, 0, []), (91, .ishl, 1, 0, 0, []), (92, .ior, 1, 0, 0, []), (93, .imul, 1, 0, 0, []), (94, .iload 7, 2, 0, 0, [])]
def xm_158_3 : List xEn := [(96, .iadd, 1, 0, 0, []), (97, .iconst 1, 1, 0, 1, []), (98, .iadd, 1, 0, 0, []), (99, .iaload, 1, 0, 0, []), (100, .istore 8, 2, 0, 0, []), (102, .iload 8, 2, 0, 0, []), (104, .ldc 135, 2, 0, 0, []), (106, .if_icmp .ne 8, 3, 114, 0, []), (109, .ldc 135, 2, 0, 0, []), (111, .goto 15, 3, 126, 0, []), (114, .iload 8, 2, 0, 0, []), (116, .aload_n 0, 1, 0, 0, []), (117, .iload_n 1, 1, 0, 0, []), (118, .iload 7, 2, 0, 0, []), (120, .iload 5, 2, 0, 0, []), (122, .invokevirtual 136, 3, 0, 0, []), (125, .iadd, 1, 0, 0, []), (126, .istore 9, 2, 0, 0, [])]
def xm_158_4 : List xEn := [(128, .iload 6, 2, 0, 0, []), (130, .iload 9, 2, 0, 0, []), (132, .invokestatic 64, 3, 0, 0, []), (135, .istore 6, 2, 0, 0, []), (137, .iinc 7 1, 3, 0, 1, []), (140, .goto (-90), 3, 50, 0, []), (143, .aload_n 0, 1, 0, 0, []), (144, .getfield 22, 3, 0, 0, []), (147, .bipush 10, 2, 0, 10, []), (149, .iload 4, 2, 0, 0, []), (151, .imul, 1, 0, 0, []), (152, .iload 5, 2, 0, 0, []), (154, .iadd, 1, 0, 0, []), (155, .iconst 1, 1, 0, 1, []), (156, .iadd, 1, 0, 0, []), (157, .iload 6, 2, 0, 0, []), (159, .iastore, 1, 0, 0, [])]
def xm_158_5 : List xEn := [(160, .iinc 5 1, 3, 0, 1, []), (163, .goto (-141), 3, 22, 0, []), (166, .iinc 4 (-1), 3, 0, (-1), []), (169, .goto (-156), 3, 13, 0, []), (172, .aload_n 0, 1, 0, 0, []), (173, .getfield 22, 3, 0, 0, []), (176, .bipush 10, 2, 0, 10, []), (178, .iload_n 2, 1, 0, 0, []), (179, .imul, 1, 0, 0, []), (180, .aload_n 0, 1, 0, 0, []), (181, .invokevirtual 89, 3, 0, 0, []), (184, .iadd, 1, 0, 0, []), (185, .iconst 1, 1, 0, 1, []), (186, .iadd, 1, 0, 0, []), (187, .iaload, 1, 0, 0, []), (188, .ireturn, 1, 0, 0, [])]
/-- X6_findsBest -/
def xm_158 : xT := (6, [xm_158_0, xm_158_1, xm_158_2, xm_158_3, xm_158_4, xm_158_5], [(13, [0, 1, 2, 3, 4], [5700], []), (22, [0, 1, 2, 3, 4, 5], [5700], []), (50, [0, 1, 2, 3, 4, 5, 6, 7], [5700], []), (188, [], [5700], [])], some .int, false, 10)
def xm_159_0 : List xEn := [(0, .aload_n 0, 1, 0, 0, []), (1, .iload_n 1, 1, 0, 0, []), (2, .invokevirtual 139, 3, 0, 0, []), (5, .istore_n 2, 1, 0, 0, []), (6, .aload_n 0, 1, 0, 0, []), (7, .invokevirtual 123, 3, 0, 0, []), (10, .istore_n 3, 1, 0, 0, []), (11, .aload_n 0, 1, 0, 0, []), (12, .invokevirtual 89, 3, 0, 0, []), (15, .istore 4, 2, 0, 0, []), (17, .aload_n 0, 1, 0, 0, []), (18, .iconst 0, 1, 0, 0, []), (19, .putfield 142, 3, 0, 0, []), (22, .iload_n 2, 1, 0, 0, []), (23, .ldc 135, 2, 0, 0, []), (25, .if_icmp .eq 153, 3, 178, 0, []), (28, .iload_n 3, 1, 0, 0, []), (29, .aload_n 0, 1, 0, 0, []), (30, .invokevirtual 117, 3, 0, 0, [])]
def xm_159_1 : List xEn := [(33, .if_icmp .eq 145, 3, 178, 0, []), (36, .iconst (-1), 1, 0, (-1), []), (37, .istore 5, 2, 0, 0, []), (39, .aload_n 0, 1, 0, 0, []), (40, .getfield 9, 3, 0, 0, []), (43, .iconst 3, 1, 0, 3, []), (44, .iaload, 1, 0, 0, []), (45, .iconst 1, 1, 0, 1, []), (46, .isub, 1, 0, 0, []), (47, .istore 6, 2, 0, 0, []), (49, .iload 6, 2, 0, 0, []), (51, .ifCond .lt 77, 3, 128, 0, []), (54, .aload_n 0, 1, 0, 0, []), (55, .iload 6, 2, 0, 0, []), (57, .iload_n 3, 1, 0, 0, []), (58, .invokevirtual 86, 3, 0, 0, []), (61, .ifCond .eq 25, 3, 86, 0, [])]
def xm_159_2 : List xEn := [(64, .aload_n 0, 1, 0, 0, []), (65, .getfield 22, 3, 0, 0, []), (68, .bipush 10, 2, 0, 10, []), (70, .iload_n 3, 1, 0, 0, []), (71, .iconst 1, 1, 0, 1, []), (72, .iload 6, 2, 0, 0, []), (74, .ishl, 1, 0, 0, []), (75, .ior, 1, 0, 0, []), (76, .imul, 1, 0, 0, []), (77, .iload 6, 2, 0, 0, []), (79, .iadd, 1, 0, 0, []), (80, .iconst 1, 1, 0, 1, []), (81, .iadd, 1, 0, 0, []), (82, .iaload, 1, 0, 0, []), (83, .goto 5, 3, 88, 0, []), (86, .ldc 135, 2, 0, 0, []), (88, .istore 7, 2, 0, 0, []), (90, .iload 7, 2, 0, 0, []), (92, .ldc 135, 2, 0, 0, []), (94, .if_icmp .eq 24, 3, 118, 0, [])]
def xm_159_3 : List xEn := [(97, .iload 7, 2, 0, 0, []), (99, .aload_n 0, 1, 0, 0, []), (100, .iload_n 1, 1, 0, 0, []), (101, .iload 6, 2, 0, 0, []), (103, .iload 4, 2, 0, 0, []), (105, .invokevirtual 136, 3, 0, 0, []), (108, .iadd, 1, 0, 0, []), (109, .iload_n 2, 1, 0, 0, []), (110, .if_icmp .ne 8, 3, 118, 0, []), (113, .iload 6, 2, 0, 0, []), (115, .goto 5, 3, 120, 0, []), (118, .iload 5, 2, 0, 0, []), (120, .istore 5, 2, 0, 0, []), (122, .iinc 6 (-1), 3, 0, (-1), []), (125, .goto (-76), 3, 49, 0, [])]
def xm_159_4 : List xEn := [(128, .aload_n 0, 1, 0, 0, []), (129, .getfield 25, 3, 0, 0, []), (132, .aload_n 0, 1, 0, 0, []), (133, .getfield 142, 3, 0, 0, []), (136, .iload 5, 2, 0, 0, []), (138, .iastore, 1, 0, 0, []), (139, .aload_n 0, 1, 0, 0, []), (140, .dup, 1, 0, 0, []), (141, .getfield 142, 3, 0, 0, []), (144, .iconst 1, 1, 0, 1, []), (145, .iadd, 1, 0, 0, []), (146, .putfield 142, 3, 0, 0, []), (149, .iload_n 3, 1, 0, 0, []), (150, .iconst 1, 1, 0, 1, []), (151, .iload 5, 2, 0, 0, []), (153, .ishl, 1, 0, 0, []), (154, .ior, 1, 0, 0, []), (155, .istore_n 3, 1, 0, 0, []), (156, .iload 5, 2, 0, 0, []), (158, .istore 4, 2, 0, 0, [])]
def xm_159_5 : List xEn := [(160, .aload_n 0, 1, 0, 0, []), (161, .getfield 22, 3, 0, 0, []), (164, .bipush 10, 2, 0, 10, []), (166, .iload_n 3, 1, 0, 0, []), (167, .imul, 1, 0, 0, []), (168, .iload 5, 2, 0, 0, []), (170, .iadd, 1, 0, 0, []), (171, .iconst 1, 1, 0, 1, []), (172, .iadd, 1, 0, 0, []), (173, .iaload, 1, 0, 0, []), (174, .istore_n 2, 1, 0, 0, []), (175, .goto (-153), 3, 22, 0, []), (178, .iload_n 2, 1, 0, 0, []), (179, .ldc 135, 2, 0, 0, []), (181, .if_icmp .eq 7, 3, 188, 0, []), (184, .iconst 1, 1, 0, 1, []), (185, .goto 4, 3, 189, 0, []), (188, .iconst 0, 1, 0, 0, []), (189, .ireturn, 1, 0, 0, [])]
/-- X6_findsRow -/
def xm_159 : xT := (6, [xm_159_0, xm_159_1, xm_159_2, xm_159_3, xm_159_4, xm_159_5], [(22, [0, 1, 2, 3, 4], [5208, 5700, 5800], []), (49, [0, 1, 2, 3, 4, 5, 6], [5208, 5700, 5800], []), (88, [0, 1, 2, 3, 4, 5, 6], [5208, 5700, 5800], []), (178, [2], [5208, 5700, 5800], []), (189, [], [5208, 5700, 5800], [])], some .boolean, false, 8)
def xm_160_0 : List xEn := [(0, .iload_n 1, 1, 0, 0, []), (1, .iconst 0, 1, 0, 0, []), (2, .iconst 1, 1, 0, 1, []), (3, .invokestatic 60, 3, 0, 0, []), (6, .ifCond .ne 9, 3, 15, 0, []), (9, .aload_n 0, 1, 0, 0, []), (10, .iconst 0, 1, 0, 0, []), (11, .invokevirtual 106, 3, 0, 0, []), (14, .ireturn, 1, 0, 0, []), (15, .aload_n 0, 1, 0, 0, []), (16, .iload_n 1, 1, 0, 0, []), (17, .invokevirtual 139, 3, 0, 0, []), (20, .istore_n 2, 1, 0, 0, []), (21, .iload_n 2, 1, 0, 0, []), (22, .ldc 135, 2, 0, 0, []), (24, .if_icmp .ne 11, 3, 35, 0, []), (27, .aload_n 0, 1, 0, 0, []), (28, .iconst 3, 1, 0, 3, []), (29, .invokevirtual 106, 3, 0, 0, [])]
def xm_160_1 : List xEn := [(32, .goto 13, 3, 45, 0, []), (35, .iload_n 1, 1, 0, 0, []), (36, .ifCond .ne 7, 3, 43, 0, []), (39, .iload_n 2, 1, 0, 0, []), (40, .goto 5, 3, 45, 0, []), (43, .iload_n 2, 1, 0, 0, []), (44, .ineg, 1, 0, 0, []), (45, .ireturn, 1, 0, 0, [])]
/-- X6_best -/
def xm_160 : xT := (6, [xm_160_0, xm_160_1], [(14, [], [5600, 5700], []), (45, [], [5600, 5700], [])], some .int, false, 3)
def xm_161_0 : List xEn := [(0, .iload_n 1, 1, 0, 0, []), (1, .iconst 0, 1, 0, 0, []), (2, .iconst 1, 1, 0, 1, []), (3, .invokestatic 60, 3, 0, 0, []), (6, .ifCond .eq 7, 3, 13, 0, []), (9, .iload_n 2, 1, 0, 0, []), (10, .ifCond .ge 9, 3, 19, 0, []), (13, .aload_n 0, 1, 0, 0, []), (14, .iconst 0, 1, 0, 0, []), (15, .invokevirtual 106, 3, 0, 0, []), (18, .ireturn, 1, 0, 0, []), (19, .aload_n 0, 1, 0, 0, []), (20, .iload_n 1, 1, 0, 0, []), (21, .invokevirtual 146, 3, 0, 0, []), (24, .istore_n 3, 1, 0, 0, []), (25, .iload_n 3, 1, 0, 0, []), (26, .ifCond .eq 20, 3, 46, 0, []), (29, .iload_n 2, 1, 0, 0, []), (30, .aload_n 0, 1, 0, 0, []), (31, .getfield 142, 3, 0, 0, [])]
def xm_161_1 : List xEn := [(34, .if_icmp .ge 12, 3, 46, 0, []), (37, .aload_n 0, 1, 0, 0, []), (38, .getfield 25, 3, 0, 0, []), (41, .iload_n 2, 1, 0, 0, []), (42, .iaload, 1, 0, 0, []), (43, .goto 8, 3, 51, 0, []), (46, .aload_n 0, 1, 0, 0, []), (47, .iconst 3, 1, 0, 3, []), (48, .invokevirtual 106, 3, 0, 0, []), (51, .ireturn, 1, 0, 0, [])]
/-- X6_ith -/
def xm_161 : xT := (6, [xm_161_0, xm_161_1], [(18, [], [5208, 5600, 5700, 5800], []), (51, [], [5208, 5600, 5700, 5800], [])], some .int, false, 4)
def xm_162_0 : List xEn := [(0, .aload_n 0, 1, 0, 0, []), (1, .invokevirtual 123, 3, 0, 0, []), (4, .istore_n 1, 1, 0, 0, []), (5, .aload_n 0, 1, 0, 0, []), (6, .invokevirtual 117, 3, 0, 0, []), (9, .istore_n 2, 1, 0, 0, []), (10, .iconst 0, 1, 0, 0, []), (11, .istore_n 3, 1, 0, 0, []), (12, .iload_n 3, 1, 0, 0, []), (13, .sipush 512, 3, 0, 512, []), (16, .if_icmp .ge 41, 3, 57, 0, []), (19, .aload_n 0, 1, 0, 0, []), (20, .getfield 28, 3, 0, 0, []), (23, .iload_n 3, 1, 0, 0, []), (24, .iload_n 3, 1, 0, 0, []), (25, .iload_n 1, 1, 0, 0, []), (26, .if_icmp .ne 7, 3, 33, 0, []), (29, .iconst 1, 1, 0, 1, []), (30, .goto 4, 3, 34, 0, [])]
def xm_162_1 : List xEn := [(33, .iconst 0, 1, 0, 0, []), (34, .iastore, 1, 0, 0, []), (35, .aload_n 0, 1, 0, 0, []), (36, .getfield 31, 3, 0, 0, []), (39, .iload_n 3, 1, 0, 0, []), (40, .iload_n 3, 1, 0, 0, []), (41, .iload_n 2, 1, 0, 0, []), (42, .if_icmp .ne 7, 3, 49, 0, []), (45, .iconst 1, 1, 0, 1, []), (46, .goto 4, 3, 50, 0, []), (49, .iconst 0, 1, 0, 0, []), (50, .iastore, 1, 0, 0, []), (51, .iinc 3 1, 3, 0, 1, []), (54, .goto (-42), 3, 12, 0, []), (57, .iload_n 1, 1, 0, 0, []), (58, .istore_n 3, 1, 0, 0, []), (59, .iload_n 3, 1, 0, 0, []), (60, .iload_n 2, 1, 0, 0, []), (61, .if_icmp .gt 72, 3, 133, 0, [])]
def xm_162_2 : List xEn := [(64, .iconst 0, 1, 0, 0, []), (65, .istore 4, 2, 0, 0, []), (67, .iload 4, 2, 0, 0, []), (69, .aload_n 0, 1, 0, 0, []), (70, .getfield 9, 3, 0, 0, []), (73, .iconst 3, 1, 0, 3, []), (74, .iaload, 1, 0, 0, []), (75, .if_icmp .ge 52, 3, 127, 0, []), (78, .aload_n 0, 1, 0, 0, []), (79, .getfield 28, 3, 0, 0, []), (82, .iload_n 3, 1, 0, 0, []), (83, .iconst 1, 1, 0, 1, []), (84, .iload 4, 2, 0, 0, []), (86, .ishl, 1, 0, 0, []), (87, .ior, 1, 0, 0, []), (88, .dup2, 1, 0, 0, []), (89, .iaload, 1, 0, 0, []), (90, .aload_n 0, 1, 0, 0, []), (91, .getfield 28, 3, 0, 0, []), (94, .iload_n 3, 1, 0, 0, []), (95, .iaload, 1, 0, 0, [])]
def xm_162_3 : List xEn := [(96, .ifCond .le 22, 3, 118, 0, []), (99, .aload_n 0, 1, 0, 0, []), (100, .iload 4, 2, 0, 0, []), (102, .iload_n 3, 1, 0, 0, []), (103, .invokevirtual 86, 3, 0, 0, []), (106, .ifCond .eq 12, 3, 118, 0, []), (109, .aload_n 0, 1, 0, 0, []), (110, .getfield 28, 3, 0, 0, []), (113, .iload_n 3, 1, 0, 0, []), (114, .iaload, 1, 0, 0, []), (115, .goto 4, 3, 119, 0, []), (118, .iconst 0, 1, 0, 0, []), (119, .iadd, 1, 0, 0, []), (120, .iastore, 1, 0, 0, []), (121, .iinc 4 1, 3, 0, 1, []), (124, .goto (-57), 3, 67, 0, []), (127, .iinc 3 1, 3, 0, 1, [])]
def xm_162_4 : List xEn := [(130, .goto (-71), 3, 59, 0, []), (133, .iload_n 2, 1, 0, 0, []), (134, .iconst 1, 1, 0, 1, []), (135, .isub, 1, 0, 0, []), (136, .istore_n 3, 1, 0, 0, []), (137, .iload_n 3, 1, 0, 0, []), (138, .ifCond .lt 63, 3, 201, 0, []), (141, .iconst 0, 1, 0, 0, []), (142, .istore 4, 2, 0, 0, []), (144, .iload 4, 2, 0, 0, []), (146, .aload_n 0, 1, 0, 0, []), (147, .getfield 9, 3, 0, 0, []), (150, .iconst 3, 1, 0, 3, []), (151, .iaload, 1, 0, 0, []), (152, .if_icmp .ge 43, 3, 195, 0, []), (155, .aload_n 0, 1, 0, 0, []), (156, .getfield 31, 3, 0, 0, []), (159, .iload_n 3, 1, 0, 0, [])]
def xm_162_5 : List xEn := [(160, .dup2, 1, 0, 0, []), (161, .iaload, 1, 0, 0, []), (162, .aload_n 0, 1, 0, 0, []), (163, .iload 4, 2, 0, 0, []), (165, .iload_n 3, 1, 0, 0, []), (166, .invokevirtual 86, 3, 0, 0, []), (169, .ifCond .eq 17, 3, 186, 0, []), (172, .aload_n 0, 1, 0, 0, []), (173, .getfield 31, 3, 0, 0, []), (176, .iload_n 3, 1, 0, 0, []), (177, .iconst 1, 1, 0, 1, []), (178, .iload 4, 2, 0, 0, []), (180, .ishl, 1, 0, 0, []), (181, .ior, 1, 0, 0, []), (182, .iaload, 1, 0, 0, []), (183, .goto 4, 3, 187, 0, []), (186, .iconst 0, 1, 0, 0, []), (187, .iadd, 1, 0, 0, []), (188, .iastore, 1, 0, 0, []), (189, .iinc 4 1, 3, 0, 1, [])]
def xm_162_6 : List xEn := [(192, .goto (-48), 3, 144, 0, []), (195, .iinc 3 (-1), 3, 0, (-1), []), (198, .goto (-61), 3, 137, 0, []), (201, .aload_n 0, 1, 0, 0, []), (202, .getfield 31, 3, 0, 0, []), (205, .iload_n 1, 1, 0, 0, []), (206, .iaload, 1, 0, 0, []), (207, .ireturn, 1, 0, 0, [])]
/-- X6_countsWays -/
def xm_162 : xT := (6, [xm_162_0, xm_162_1, xm_162_2, xm_162_3, xm_162_4, xm_162_5, xm_162_6], [(12, [0, 1, 2, 3], [5900, 6000], []), (34, [0, 1, 2, 3], [5900, 6000], []), (59, [0, 1, 2, 3], [5900, 6000], []), (67, [0, 1, 2, 3, 4], [5900, 6000], []), (137, [0, 1, 3], [5900, 6000], []), (144, [0, 1, 3, 4], [5900, 6000], []), (207, [], [5900, 6000], [])], some .int, false, 5)
def xm_163_0 : List xEn := [(0, .aload_n 0, 1, 0, 0, []), (1, .invokevirtual 149, 3, 0, 0, []), (4, .ireturn, 1, 0, 0, [])]
/-- X6_ways -/
def xm_163 : xT := (6, [xm_163_0], [], some .int, false, 1)
def xm_164_0 : List xEn := [(0, .aload_n 0, 1, 0, 0, []), (1, .invokevirtual 149, 3, 0, 0, []), (4, .istore_n 1, 1, 0, 0, []), (5, .iconst 0, 1, 0, 0, []), (6, .istore_n 2, 1, 0, 0, []), (7, .iconst 0, 1, 0, 0, []), (8, .istore_n 3, 1, 0, 0, []), (9, .iload_n 3, 1, 0, 0, []), (10, .aload_n 0, 1, 0, 0, []), (11, .getfield 9, 3, 0, 0, []), (14, .iconst 3, 1, 0, 3, []), (15, .iaload, 1, 0, 0, []), (16, .if_icmp .ge 55, 3, 71, 0, []), (19, .iload_n 1, 1, 0, 0, []), (20, .ifCond .le 51, 3, 71, 0, []), (23, .aload_n 0, 1, 0, 0, []), (24, .invokevirtual 117, 3, 0, 0, []), (27, .iconst 1, 1, 0, 1, []), (28, .iload_n 3, 1, 0, 0, []), (29, .ishl, 1, 0, 0, []), (30, .iconst (-1), 1, 0, (-1), []), (31, .ixor, 1, 0, 0, [])]
def xm_164_1 : List xEn := [(32, .iand, 1, 0, 0, []), (33, .istore 4, 2, 0, 0, []), (35, .iload_n 2, 1, 0, 0, []), (36, .aload_n 0, 1, 0, 0, []), (37, .getfield 28, 3, 0, 0, []), (40, .iload 4, 2, 0, 0, []), (42, .iaload, 1, 0, 0, []), (43, .ifCond .le 19, 3, 62, 0, []), (46, .aload_n 0, 1, 0, 0, []), (47, .iload_n 3, 1, 0, 0, []), (48, .iload 4, 2, 0, 0, []), (50, .invokevirtual 86, 3, 0, 0, []), (53, .ifCond .eq 9, 3, 62, 0, []), (56, .iconst 1, 1, 0, 1, []), (57, .iload_n 3, 1, 0, 0, []), (58, .ishl, 1, 0, 0, []), (59, .goto 4, 3, 63, 0, []), (62, .iconst 0, 1, 0, 0, []), (63, .ior, 1, 0, 0, [])]
def xm_164_2 : List xEn := [(64, .istore_n 2, 1, 0, 0, []), (65, .iinc 3 1, 3, 0, 1, []), (68, .goto (-59), 3, 9, 0, []), (71, .iload_n 2, 1, 0, 0, []), (72, .ireturn, 1, 0, 0, [])]
/-- X6_lasts -/
def xm_164 : xT := (6, [xm_164_0, xm_164_1, xm_164_2], [(9, [0, 1, 2, 3], [5900, 6000], [])], some .int, false, 5)
def xm_165_0 : List xEn := [(0, .aload_n 0, 1, 0, 0, []), (1, .iload_n 1, 1, 0, 0, []), (2, .invokevirtual 113, 3, 0, 0, []), (5, .ifCond .eq 12, 3, 17, 0, []), (8, .iload_n 2, 1, 0, 0, []), (9, .iconst 0, 1, 0, 0, []), (10, .iconst 1, 1, 0, 1, []), (11, .invokestatic 60, 3, 0, 0, []), (14, .ifCond .ne 9, 3, 23, 0, []), (17, .aload_n 0, 1, 0, 0, []), (18, .iconst 0, 1, 0, 0, []), (19, .invokevirtual 106, 3, 0, 0, []), (22, .ireturn, 1, 0, 0, []), (23, .aload_n 0, 1, 0, 0, []), (24, .invokevirtual 123, 3, 0, 0, []), (27, .iload_n 1, 1, 0, 0, []), (28, .invokestatic 82, 3, 0, 0, []), (31, .ifCond .eq 9, 3, 40, 0, [])]
def xm_165_1 : List xEn := [(34, .aload_n 0, 1, 0, 0, []), (35, .iconst 4, 1, 0, 4, []), (36, .invokevirtual 106, 3, 0, 0, []), (39, .ireturn, 1, 0, 0, []), (40, .aload_n 0, 1, 0, 0, []), (41, .invokevirtual 149, 3, 0, 0, []), (44, .ifCond .ne 9, 3, 53, 0, []), (47, .aload_n 0, 1, 0, 0, []), (48, .iconst 3, 1, 0, 3, []), (49, .invokevirtual 106, 3, 0, 0, []), (52, .ireturn, 1, 0, 0, []), (53, .bipush 9, 2, 0, 9, []), (55, .istore_n 3, 1, 0, 0, []), (56, .iconst 0, 1, 0, 0, []), (57, .istore 4, 2, 0, 0, []), (59, .iconst 0, 1, 0, 0, []), (60, .istore 5, 2, 0, 0, []), (62, .iload 5, 2, 0, 0, [])]
def xm_165_2 : List xEn := [(64, .sipush 512, 3, 0, 512, []), (67, .if_icmp .ge 101, 3, 168, 0, []), (70, .aload_n 0, 1, 0, 0, []), (71, .getfield 28, 3, 0, 0, []), (74, .iload 5, 2, 0, 0, []), (76, .iaload, 1, 0, 0, []), (77, .ifCond .le 31, 3, 108, 0, []), (80, .aload_n 0, 1, 0, 0, []), (81, .iload_n 1, 1, 0, 0, []), (82, .iload 5, 2, 0, 0, []), (84, .invokevirtual 86, 3, 0, 0, []), (87, .ifCond .eq 21, 3, 108, 0, []), (90, .aload_n 0, 1, 0, 0, []), (91, .getfield 31, 3, 0, 0, []), (94, .iload 5, 2, 0, 0, [])]
def xm_165_3 : List xEn := [(96, .iconst 1, 1, 0, 1, []), (97, .iload_n 1, 1, 0, 0, []), (98, .ishl, 1, 0, 0, []), (99, .ior, 1, 0, 0, []), (100, .iaload, 1, 0, 0, []), (101, .ifCond .le 7, 3, 108, 0, []), (104, .iconst 1, 1, 0, 1, []), (105, .goto 4, 3, 109, 0, []), (108, .iconst 0, 1, 0, 0, []), (109, .istore 6, 2, 0, 0, []), (111, .iload 5, 2, 0, 0, []), (113, .invokestatic 152, 3, 0, 0, []), (116, .aload_n 0, 1, 0, 0, []), (117, .getfield 9, 3, 0, 0, []), (120, .iconst 2, 1, 0, 2, []), (121, .iaload, 1, 0, 0, []), (122, .isub, 1, 0, 0, []), (123, .istore 7, 2, 0, 0, []), (125, .iload 6, 2, 0, 0, []), (127, .ifCond .eq 14, 3, 141, 0, [])]
def xm_165_4 : List xEn := [(130, .iload 7, 2, 0, 0, []), (132, .iload_n 3, 1, 0, 0, []), (133, .if_icmp .ge 8, 3, 141, 0, []), (136, .iload 7, 2, 0, 0, []), (138, .goto 4, 3, 142, 0, []), (141, .iload_n 3, 1, 0, 0, []), (142, .istore_n 3, 1, 0, 0, []), (143, .iload 6, 2, 0, 0, []), (145, .ifCond .eq 13, 3, 158, 0, []), (148, .iload 4, 2, 0, 0, []), (150, .iload 7, 2, 0, 0, []), (152, .invokestatic 64, 3, 0, 0, []), (155, .goto 5, 3, 160, 0, []), (158, .iload 4, 2, 0, 0, [])]
def xm_165_5 : List xEn := [(160, .istore 4, 2, 0, 0, []), (162, .iinc 5 1, 3, 0, 1, []), (165, .goto (-103), 3, 62, 0, []), (168, .iload_n 2, 1, 0, 0, []), (169, .ifCond .ne 7, 3, 176, 0, []), (172, .iload_n 3, 1, 0, 0, []), (173, .goto 5, 3, 178, 0, []), (176, .iload 4, 2, 0, 0, []), (178, .ireturn, 1, 0, 0, [])]
/-- X6_place -/
def xm_165 : xT := (6, [xm_165_0, xm_165_1, xm_165_2, xm_165_3, xm_165_4, xm_165_5], [(22, [], [5600, 5900, 6000], []), (39, [], [5600, 5900, 6000], []), (62, [0, 1, 2, 3, 4, 5], [5900, 6000], []), (109, [0, 1, 2, 3, 4, 5], [5900, 6000], []), (142, [0, 1, 2, 4, 5, 6, 7], [5900, 6000], []), (178, [], [5600, 5900, 6000], [])], some .int, false, 8)
def xm_166_0 : List xEn := [(0, .aload_n 0, 1, 0, 0, []), (1, .iload_n 1, 1, 0, 0, []), (2, .iconst 3, 1, 0, 3, []), (3, .invokevirtual 68, 3, 0, 0, []), (6, .istore_n 2, 1, 0, 0, []), (7, .iconst 0, 1, 0, 0, []), (8, .istore_n 3, 1, 0, 0, []), (9, .iload_n 3, 1, 0, 0, []), (10, .bipush 9, 2, 0, 9, []), (12, .if_icmp .ge 52, 3, 64, 0, []), (15, .iconst 0, 1, 0, 0, []), (16, .istore 4, 2, 0, 0, []), (18, .iload 4, 2, 0, 0, []), (20, .aload_n 0, 1, 0, 0, []), (21, .getfield 9, 3, 0, 0, []), (24, .iconst 3, 1, 0, 3, []), (25, .iaload, 1, 0, 0, []), (26, .if_icmp .ge 32, 3, 58, 0, []), (29, .iload_n 2, 1, 0, 0, []), (30, .iload_n 2, 1, 0, 0, []), (31, .iload 4, 2, 0, 0, [])]
def xm_166_1 : List xEn := [(33, .invokestatic 82, 3, 0, 0, []), (36, .ifCond .eq 13, 3, 49, 0, []), (39, .aload_n 0, 1, 0, 0, []), (40, .iload 4, 2, 0, 0, []), (42, .iconst 3, 1, 0, 3, []), (43, .invokevirtual 68, 3, 0, 0, []), (46, .goto 4, 3, 50, 0, []), (49, .iconst 0, 1, 0, 0, []), (50, .ior, 1, 0, 0, []), (51, .istore_n 2, 1, 0, 0, []), (52, .iinc 4 1, 3, 0, 1, []), (55, .goto (-37), 3, 18, 0, []), (58, .iinc 3 1, 3, 0, 1, []), (61, .goto (-52), 3, 9, 0, [])]
def xm_166_2 : List xEn := [(64, .iload_n 2, 1, 0, 0, []), (65, .ireturn, 1, 0, 0, [])]
/-- X6_allAhead -/
def xm_166 : xT := (6, [xm_166_0, xm_166_1, xm_166_2], [(9, [0, 2, 3], [], []), (18, [0, 2, 3, 4], [], [])], some .int, false, 5)
def xm_167_0 : List xEn := [(0, .aload_n 0, 1, 0, 0, []), (1, .iload_n 1, 1, 0, 0, []), (2, .invokevirtual 113, 3, 0, 0, []), (5, .ifCond .eq 11, 3, 16, 0, []), (8, .aload_n 0, 1, 0, 0, []), (9, .iload_n 1, 1, 0, 0, []), (10, .invokevirtual 155, 3, 0, 0, []), (13, .goto 8, 3, 21, 0, []), (16, .aload_n 0, 1, 0, 0, []), (17, .iconst 0, 1, 0, 0, []), (18, .invokevirtual 106, 3, 0, 0, []), (21, .ireturn, 1, 0, 0, [])]
/-- X6_all -/
def xm_167 : xT := (6, [xm_167_0], [(21, [], [5600], [])], some .int, false, 2)
def xm_168_0 : List xEn := [(0, .iconst 0, 1, 0, 0, []), (1, .istore_n 1, 1, 0, 0, []), (2, .iconst 0, 1, 0, 0, []), (3, .istore_n 2, 1, 0, 0, []), (4, .iload_n 2, 1, 0, 0, []), (5, .aload_n 0, 1, 0, 0, []), (6, .getfield 9, 3, 0, 0, []), (9, .iconst 3, 1, 0, 3, []), (10, .iaload, 1, 0, 0, []), (11, .if_icmp .ge 31, 3, 42, 0, []), (14, .iload_n 1, 1, 0, 0, []), (15, .aload_n 0, 1, 0, 0, []), (16, .iload_n 2, 1, 0, 0, []), (17, .invokevirtual 155, 3, 0, 0, []), (20, .iload_n 2, 1, 0, 0, []), (21, .invokestatic 82, 3, 0, 0, []), (24, .ifCond .eq 9, 3, 33, 0, []), (27, .iconst 1, 1, 0, 1, []), (28, .iload_n 2, 1, 0, 0, []), (29, .ishl, 1, 0, 0, []), (30, .goto 4, 3, 34, 0, [])]
def xm_168_1 : List xEn := [(33, .iconst 0, 1, 0, 0, []), (34, .ior, 1, 0, 0, []), (35, .istore_n 1, 1, 0, 0, []), (36, .iinc 2 1, 3, 0, 1, []), (39, .goto (-35), 3, 4, 0, []), (42, .iload_n 1, 1, 0, 0, []), (43, .ireturn, 1, 0, 0, [])]
/-- X6_clash -/
def xm_168 : xT := (6, [xm_168_0, xm_168_1], [(4, [0, 1, 2], [], [])], some .int, false, 3)
def xm_169_0 : List xEn := [(0, .aload_n 0, 1, 0, 0, []), (1, .getfield 28, 3, 0, 0, []), (4, .iconst 0, 1, 0, 0, []), (5, .iconst 0, 1, 0, 0, []), (6, .iastore, 1, 0, 0, []), (7, .iconst 1, 1, 0, 1, []), (8, .istore_n 1, 1, 0, 0, []), (9, .iload_n 1, 1, 0, 0, []), (10, .aload_n 0, 1, 0, 0, []), (11, .invokevirtual 117, 3, 0, 0, []), (14, .if_icmp .gt 104, 3, 118, 0, []), (17, .aload_n 0, 1, 0, 0, []), (18, .getfield 28, 3, 0, 0, []), (21, .iload_n 1, 1, 0, 0, []), (22, .iconst (-1), 1, 0, (-1), []), (23, .iastore, 1, 0, 0, []), (24, .iconst 0, 1, 0, 0, []), (25, .istore_n 2, 1, 0, 0, []), (26, .iload_n 2, 1, 0, 0, []), (27, .aload_n 0, 1, 0, 0, []), (28, .getfield 9, 3, 0, 0, []), (31, .iconst 3, 1, 0, 3, [])]
def xm_169_1 : List xEn := [(32, .iaload, 1, 0, 0, []), (33, .if_icmp .ge 79, 3, 112, 0, []), (36, .iload_n 1, 1, 0, 0, []), (37, .iload_n 2, 1, 0, 0, []), (38, .invokestatic 82, 3, 0, 0, []), (41, .ifCond .eq 65, 3, 106, 0, []), (44, .aload_n 0, 1, 0, 0, []), (45, .getfield 28, 3, 0, 0, []), (48, .iload_n 1, 1, 0, 0, []), (49, .iconst 1, 1, 0, 1, []), (50, .iload_n 2, 1, 0, 0, []), (51, .ishl, 1, 0, 0, []), (52, .iconst (-1), 1, 0, (-1), []), (53, .ixor, 1, 0, 0, []), (54, .iand, 1, 0, 0, []), (55, .iaload, 1, 0, 0, []), (56, .aload_n 0, 1, 0, 0, []), (57, .iload_n 2, 1, 0, 0, []), (58, .iconst 3, 1, 0, 3, []), (59, .invokevirtual 68, 3, 0, 0, []), (62, .iload_n 1, 1, 0, 0, []), (63, .iconst (-1), 1, 0, (-1), [])]
def xm_169_2 : List xEn := [(64, .ixor, 1, 0, 0, []), (65, .iand, 1, 0, 0, []), (66, .invokestatic 152, 3, 0, 0, []), (69, .iadd, 1, 0, 0, []), (70, .istore_n 3, 1, 0, 0, []), (71, .aload_n 0, 1, 0, 0, []), (72, .getfield 28, 3, 0, 0, []), (75, .iload_n 1, 1, 0, 0, []), (76, .aload_n 0, 1, 0, 0, []), (77, .getfield 28, 3, 0, 0, []), (80, .iload_n 1, 1, 0, 0, []), (81, .iaload, 1, 0, 0, []), (82, .ifCond .lt 13, 3, 95, 0, []), (85, .iload_n 3, 1, 0, 0, []), (86, .aload_n 0, 1, 0, 0, []), (87, .getfield 28, 3, 0, 0, []), (90, .iload_n 1, 1, 0, 0, []), (91, .iaload, 1, 0, 0, []), (92, .if_icmp .ge 7, 3, 99, 0, []), (95, .iload_n 3, 1, 0, 0, [])]
def xm_169_3 : List xEn := [(96, .goto 9, 3, 105, 0, []), (99, .aload_n 0, 1, 0, 0, []), (100, .getfield 28, 3, 0, 0, []), (103, .iload_n 1, 1, 0, 0, []), (104, .iaload, 1, 0, 0, []), (105, .iastore, 1, 0, 0, []), (106, .iinc 2 1, 3, 0, 1, []), (109, .goto (-83), 3, 26, 0, []), (112, .iinc 1 1, 3, 0, 1, []), (115, .goto (-106), 3, 9, 0, []), (118, .aload_n 0, 1, 0, 0, []), (119, .getfield 28, 3, 0, 0, []), (122, .aload_n 0, 1, 0, 0, []), (123, .invokevirtual 117, 3, 0, 0, []), (126, .iaload, 1, 0, 0, []), (127, .ireturn, 1, 0, 0, [])]
/-- X6_broken -/
def xm_169 : xT := (6, [xm_169_0, xm_169_1, xm_169_2, xm_169_3], [(9, [0, 1], [5900], []), (26, [0, 1, 2], [5900], [])], some .int, false, 4)
def xm_170_0 : List xEn := [(0, .aload_n 0, 1, 0, 0, []), (1, .iload_n 1, 1, 0, 0, []), (2, .invokevirtual 113, 3, 0, 0, []), (5, .ifCond .eq 16, 3, 21, 0, []), (8, .aload_n 0, 1, 0, 0, []), (9, .iload_n 2, 1, 0, 0, []), (10, .invokevirtual 113, 3, 0, 0, []), (13, .ifCond .eq 8, 3, 21, 0, []), (16, .iload_n 1, 1, 0, 0, []), (17, .iload_n 2, 1, 0, 0, []), (18, .if_icmp .ne 9, 3, 27, 0, []), (21, .aload_n 0, 1, 0, 0, []), (22, .iconst 0, 1, 0, 0, []), (23, .invokevirtual 106, 3, 0, 0, []), (26, .ireturn, 1, 0, 0, []), (27, .iconst (-1), 1, 0, (-1), []), (28, .istore_n 3, 1, 0, 0, []), (29, .iconst (-1), 1, 0, (-1), []), (30, .istore 4, 2, 0, 0, [])]
def xm_170_1 : List xEn := [(32, .iconst 0, 1, 0, 0, []), (33, .istore 5, 2, 0, 0, []), (35, .iload 5, 2, 0, 0, []), (37, .aload_n 0, 1, 0, 0, []), (38, .getfield 9, 3, 0, 0, []), (41, .iconst 3, 1, 0, 3, []), (42, .iaload, 1, 0, 0, []), (43, .if_icmp .ge 73, 3, 116, 0, []), (46, .iload 5, 2, 0, 0, []), (48, .iload_n 1, 1, 0, 0, []), (49, .if_icmp .eq 9, 3, 58, 0, []), (52, .iload 5, 2, 0, 0, []), (54, .iload_n 2, 1, 0, 0, []), (55, .if_icmp .ne 7, 3, 62, 0, []), (58, .iconst (-1), 1, 0, (-1), []), (59, .goto 26, 3, 85, 0, []), (62, .aload_n 0, 1, 0, 0, []), (63, .iload 5, 2, 0, 0, [])]
def xm_170_2 : List xEn := [(65, .aload_n 0, 1, 0, 0, []), (66, .iload_n 1, 1, 0, 0, []), (67, .invokevirtual 75, 3, 0, 0, []), (70, .invokevirtual 96, 3, 0, 0, []), (73, .aload_n 0, 1, 0, 0, []), (74, .iload_n 2, 1, 0, 0, []), (75, .aload_n 0, 1, 0, 0, []), (76, .iload 5, 2, 0, 0, []), (78, .invokevirtual 75, 3, 0, 0, []), (81, .invokevirtual 96, 3, 0, 0, []), (84, .iadd, 1, 0, 0, []), (85, .istore 6, 2, 0, 0, []), (87, .iload 6, 2, 0, 0, []), (89, .iload 4, 2, 0, 0, []), (91, .if_icmp .le 8, 3, 99, 0, []), (94, .iload 5, 2, 0, 0, [])]
def xm_170_3 : List xEn := [(96, .goto 4, 3, 100, 0, []), (99, .iload_n 3, 1, 0, 0, []), (100, .istore_n 3, 1, 0, 0, []), (101, .iload 4, 2, 0, 0, []), (103, .iload 6, 2, 0, 0, []), (105, .invokestatic 64, 3, 0, 0, []), (108, .istore 4, 2, 0, 0, []), (110, .iinc 5 1, 3, 0, 1, []), (113, .goto (-78), 3, 35, 0, []), (116, .iload_n 3, 1, 0, 0, []), (117, .ifCond .ge 11, 3, 128, 0, []), (120, .aload_n 0, 1, 0, 0, []), (121, .iconst 3, 1, 0, 3, []), (122, .invokevirtual 106, 3, 0, 0, []), (125, .goto 4, 3, 129, 0, [])]
def xm_170_4 : List xEn := [(128, .iload_n 3, 1, 0, 0, []), (129, .ireturn, 1, 0, 0, [])]
/-- X6_between -/
def xm_170 : xT := (6, [xm_170_0, xm_170_1, xm_170_2, xm_170_3, xm_170_4], [(35, [0, 1, 2, 3, 4, 5], [], []), (85, [0, 1, 2, 3, 4, 5], [], []), (129, [], [5600], [])], some .int, false, 7)
def xm_171_0 : List xEn := [(0, .aload_n 0, 1, 0, 0, []), (1, .iload_n 1, 1, 0, 0, []), (2, .invokevirtual 113, 3, 0, 0, []), (5, .ifCond .ne 9, 3, 14, 0, []), (8, .aload_n 0, 1, 0, 0, []), (9, .iconst 0, 1, 0, 0, []), (10, .invokevirtual 106, 3, 0, 0, []), (13, .ireturn, 1, 0, 0, []), (14, .aload_n 0, 1, 0, 0, []), (15, .iload_n 1, 1, 0, 0, []), (16, .iconst 0, 1, 0, 0, []), (17, .invokevirtual 68, 3, 0, 0, []), (20, .istore_n 2, 1, 0, 0, []), (21, .iconst (-1), 1, 0, (-1), []), (22, .istore_n 3, 1, 0, 0, []), (23, .ldc 135, 2, 0, 0, []), (25, .istore 4, 2, 0, 0, []), (27, .iconst 0, 1, 0, 0, []), (28, .istore 5, 2, 0, 0, []), (30, .iload 5, 2, 0, 0, [])]
def xm_171_1 : List xEn := [(32, .bipush 6, 2, 0, 6, []), (34, .if_icmp .gt 47, 3, 81, 0, []), (37, .aload_n 0, 1, 0, 0, []), (38, .iload_n 1, 1, 0, 0, []), (39, .iconst 0, 1, 0, 0, []), (40, .iload 5, 2, 0, 0, []), (42, .invokevirtual 102, 3, 0, 0, []), (45, .aload_n 0, 1, 0, 0, []), (46, .iconst 0, 1, 0, 0, []), (47, .invokevirtual 139, 3, 0, 0, []), (50, .istore 6, 2, 0, 0, []), (52, .iload 6, 2, 0, 0, []), (54, .iload 4, 2, 0, 0, []), (56, .if_icmp .le 8, 3, 64, 0, []), (59, .iload 5, 2, 0, 0, []), (61, .goto 4, 3, 65, 0, [])]
def xm_171_2 : List xEn := [(64, .iload_n 3, 1, 0, 0, []), (65, .istore_n 3, 1, 0, 0, []), (66, .iload 4, 2, 0, 0, []), (68, .iload 6, 2, 0, 0, []), (70, .invokestatic 64, 3, 0, 0, []), (73, .istore 4, 2, 0, 0, []), (75, .iinc 5 1, 3, 0, 1, []), (78, .goto (-48), 3, 30, 0, []), (81, .aload_n 0, 1, 0, 0, []), (82, .iload_n 1, 1, 0, 0, []), (83, .iconst 0, 1, 0, 0, []), (84, .iload_n 2, 1, 0, 0, []), (85, .invokevirtual 102, 3, 0, 0, []), (88, .iload_n 3, 1, 0, 0, []), (89, .ifCond .ge 11, 3, 100, 0, []), (92, .aload_n 0, 1, 0, 0, []), (93, .iconst 3, 1, 0, 3, []), (94, .invokevirtual 106, 3, 0, 0, [])]
def xm_171_3 : List xEn := [(97, .goto 4, 3, 101, 0, []), (100, .iload_n 3, 1, 0, 0, []), (101, .ireturn, 1, 0, 0, [])]
/-- X6_kindFor -/
def xm_171 : xT := (6, [xm_171_0, xm_171_1, xm_171_2, xm_171_3], [(13, [], [5300, 5600, 5700], []), (30, [0, 1, 2, 3, 4, 5], [5300, 5700], []), (101, [], [5300, 5600, 5700], [])], some .int, false, 7)
def xm_172_0 : List xEn := [(0, .iconst (-1), 1, 0, (-1), []), (1, .istore_n 1, 1, 0, 0, []), (2, .aload_n 0, 1, 0, 0, []), (3, .ldc 135, 2, 0, 0, []), (5, .putfield 158, 3, 0, 0, []), (8, .iconst 0, 1, 0, 0, []), (9, .istore_n 2, 1, 0, 0, []), (10, .iload_n 2, 1, 0, 0, []), (11, .bipush 10, 2, 0, 10, []), (13, .aload_n 0, 1, 0, 0, []), (14, .getfield 9, 3, 0, 0, []), (17, .iconst 3, 1, 0, 3, []), (18, .iaload, 1, 0, 0, []), (19, .imul, 1, 0, 0, []), (20, .if_icmp .ge 111, 3, 131, 0, []), (23, .iload_n 2, 1, 0, 0, []), (24, .bipush 10, 2, 0, 10, []), (26, .idiv, 1, 0, 0, []), (27, .istore_n 3, 1, 0, 0, []), (28, .iload_n 2, 1, 0, 0, []), (29, .bipush 10, 2, 0, 10, []), (31, .irem, 1, 0, 0, [])]
def xm_172_1 : List xEn := [(32, .istore 4, 2, 0, 0, []), (34, .aload_n 0, 1, 0, 0, []), (35, .iload 4, 2, 0, 0, []), (37, .invokevirtual 113, 3, 0, 0, []), (40, .ifCond .eq 85, 3, 125, 0, []), (43, .aload_n 0, 1, 0, 0, []), (44, .iload 4, 2, 0, 0, []), (46, .iconst 3, 1, 0, 3, []), (47, .invokevirtual 68, 3, 0, 0, []), (50, .iload_n 3, 1, 0, 0, []), (51, .invokestatic 82, 3, 0, 0, []), (54, .ifCond .eq 71, 3, 125, 0, []), (57, .aload_n 0, 1, 0, 0, []), (58, .iload 4, 2, 0, 0, []), (60, .iconst 3, 1, 0, 3, []), (61, .invokevirtual 68, 3, 0, 0, [])]
def xm_172_2 : List xEn := [(64, .istore 5, 2, 0, 0, []), (66, .aload_n 0, 1, 0, 0, []), (67, .iload 4, 2, 0, 0, []), (69, .iconst 3, 1, 0, 3, []), (70, .iload 5, 2, 0, 0, []), (72, .iconst 1, 1, 0, 1, []), (73, .iload_n 3, 1, 0, 0, []), (74, .ishl, 1, 0, 0, []), (75, .iconst (-1), 1, 0, (-1), []), (76, .ixor, 1, 0, 0, []), (77, .iand, 1, 0, 0, []), (78, .invokevirtual 102, 3, 0, 0, []), (81, .aload_n 0, 1, 0, 0, []), (82, .iconst 0, 1, 0, 0, []), (83, .invokevirtual 139, 3, 0, 0, []), (86, .istore 6, 2, 0, 0, []), (88, .aload_n 0, 1, 0, 0, []), (89, .iload 4, 2, 0, 0, []), (91, .iconst 3, 1, 0, 3, []), (92, .iload 5, 2, 0, 0, []), (94, .invokevirtual 102, 3, 0, 0, [])]
def xm_172_3 : List xEn := [(97, .iload 6, 2, 0, 0, []), (99, .aload_n 0, 1, 0, 0, []), (100, .getfield 158, 3, 0, 0, []), (103, .if_icmp .le 7, 3, 110, 0, []), (106, .iload_n 2, 1, 0, 0, []), (107, .goto 4, 3, 111, 0, []), (110, .iload_n 1, 1, 0, 0, []), (111, .istore_n 1, 1, 0, 0, []), (112, .aload_n 0, 1, 0, 0, []), (113, .aload_n 0, 1, 0, 0, []), (114, .getfield 158, 3, 0, 0, []), (117, .iload 6, 2, 0, 0, []), (119, .invokestatic 64, 3, 0, 0, []), (122, .putfield 158, 3, 0, 0, []), (125, .iinc 2 1, 3, 0, 1, [])]
def xm_172_4 : List xEn := [(128, .goto (-118), 3, 10, 0, []), (131, .iload_n 1, 1, 0, 0, []), (132, .ireturn, 1, 0, 0, [])]
/-- X6_findsFreed -/
def xm_172 : xT := (6, [xm_172_0, xm_172_1, xm_172_2, xm_172_3, xm_172_4], [(10, [0, 1, 2], [5211, 5300, 5700], []), (132, [], [5211, 5300, 5700], [])], some .int, false, 7)
def xm_173_0 : List xEn := [(0, .aload_n 0, 1, 0, 0, []), (1, .invokevirtual 161, 3, 0, 0, []), (4, .istore_n 1, 1, 0, 0, []), (5, .iload_n 1, 1, 0, 0, []), (6, .ifCond .ge 11, 3, 17, 0, []), (9, .aload_n 0, 1, 0, 0, []), (10, .iconst 3, 1, 0, 3, []), (11, .invokevirtual 106, 3, 0, 0, []), (14, .goto 4, 3, 18, 0, []), (17, .iload_n 1, 1, 0, 0, []), (18, .ireturn, 1, 0, 0, [])]
/-- X6_freed -/
def xm_173 : xT := (6, [xm_173_0], [(18, [], [5211, 5300, 5600, 5700], [])], some .int, false, 2)
def xm_174_0 : List xEn := [(0, .aload_n 0, 1, 0, 0, []), (1, .invokevirtual 161, 3, 0, 0, []), (4, .istore_n 1, 1, 0, 0, []), (5, .iload_n 1, 1, 0, 0, []), (6, .ifCond .ge 11, 3, 17, 0, []), (9, .aload_n 0, 1, 0, 0, []), (10, .iconst 3, 1, 0, 3, []), (11, .invokevirtual 106, 3, 0, 0, []), (14, .goto 7, 3, 21, 0, []), (17, .aload_n 0, 1, 0, 0, []), (18, .getfield 158, 3, 0, 0, []), (21, .ireturn, 1, 0, 0, [])]
/-- X6_free -/
def xm_174 : xT := (6, [xm_174_0], [(21, [], [5211, 5300, 5600, 5700], [])], some .int, false, 2)
def xm_175_0 : List xEn := [(0, .aload_n 0, 1, 0, 0, []), (1, .iconst 0, 1, 0, 0, []), (2, .invokevirtual 146, 3, 0, 0, []), (5, .ifCond .ne 9, 3, 14, 0, []), (8, .aload_n 0, 1, 0, 0, []), (9, .iconst 3, 1, 0, 3, []), (10, .invokevirtual 106, 3, 0, 0, []), (13, .ireturn, 1, 0, 0, []), (14, .aload_n 0, 1, 0, 0, []), (15, .getfield 9, 3, 0, 0, []), (18, .iconst 1, 1, 0, 1, []), (19, .iaload, 1, 0, 0, []), (20, .istore_n 1, 1, 0, 0, []), (21, .iconst 0, 1, 0, 0, []), (22, .istore_n 2, 1, 0, 0, []), (23, .iconst 0, 1, 0, 0, []), (24, .istore_n 3, 1, 0, 0, []), (25, .iload_n 3, 1, 0, 0, []), (26, .aload_n 0, 1, 0, 0, []), (27, .getfield 142, 3, 0, 0, []), (30, .if_icmp .ge 41, 3, 71, 0, [])]
def xm_175_1 : List xEn := [(33, .iload_n 1, 1, 0, 0, []), (34, .aload_n 0, 1, 0, 0, []), (35, .aload_n 0, 1, 0, 0, []), (36, .getfield 25, 3, 0, 0, []), (39, .iload_n 3, 1, 0, 0, []), (40, .iaload, 1, 0, 0, []), (41, .invokevirtual 99, 3, 0, 0, []), (44, .iadd, 1, 0, 0, []), (45, .istore_n 1, 1, 0, 0, []), (46, .iload_n 2, 1, 0, 0, []), (47, .iload_n 1, 1, 0, 0, []), (48, .aload_n 0, 1, 0, 0, []), (49, .getfield 9, 3, 0, 0, []), (52, .bipush 9, 2, 0, 9, []), (54, .iaload, 1, 0, 0, []), (55, .if_icmp .gt 7, 3, 62, 0, []), (58, .iconst 1, 1, 0, 1, []), (59, .goto 4, 3, 63, 0, []), (62, .iconst 0, 1, 0, 0, []), (63, .iadd, 1, 0, 0, [])]
def xm_175_2 : List xEn := [(64, .istore_n 2, 1, 0, 0, []), (65, .iinc 3 1, 3, 0, 1, []), (68, .goto (-43), 3, 25, 0, []), (71, .iload_n 2, 1, 0, 0, []), (72, .ireturn, 1, 0, 0, [])]
/-- X6_train -/
def xm_175 : xT := (6, [xm_175_0, xm_175_1, xm_175_2], [(25, [0, 1, 2, 3], [5208, 5700, 5800], []), (72, [], [5208, 5600, 5700, 5800], [])], some .int, false, 4)
def xm_176_0 : List xEn := [(0, .aload_n 0, 1, 0, 0, []), (1, .iload_n 1, 1, 0, 0, []), (2, .invokevirtual 113, 3, 0, 0, []), (5, .ifCond .eq 18, 3, 23, 0, []), (8, .iload_n 2, 1, 0, 0, []), (9, .iconst 0, 1, 0, 0, []), (10, .sipush 999, 3, 0, 999, []), (13, .invokestatic 60, 3, 0, 0, []), (16, .ifCond .eq 7, 3, 23, 0, []), (19, .iconst 1, 1, 0, 1, []), (20, .goto 4, 3, 24, 0, []), (23, .iconst 0, 1, 0, 0, []), (24, .ireturn, 1, 0, 0, [])]
/-- X6_isAsked -/
def xm_176 : xT := (6, [xm_176_0], [], some .boolean, false, 3)
def xm_177_0 : List xEn := [(0, .aload_n 0, 1, 0, 0, []), (1, .iload_n 1, 1, 0, 0, []), (2, .iload_n 2, 1, 0, 0, []), (3, .invokevirtual 164, 3, 0, 0, []), (6, .ifCond .ne 9, 3, 15, 0, []), (9, .aload_n 0, 1, 0, 0, []), (10, .iconst 0, 1, 0, 0, []), (11, .invokevirtual 106, 3, 0, 0, []), (14, .ireturn, 1, 0, 0, []), (15, .iconst 0, 1, 0, 0, []), (16, .istore 4, 2, 0, 0, []), (18, .iconst 0, 1, 0, 0, []), (19, .istore 5, 2, 0, 0, []), (21, .iload 5, 2, 0, 0, []), (23, .bipush 100, 2, 0, 100, []), (25, .if_icmp .ge 35, 3, 60, 0, []), (28, .iload 4, 2, 0, 0, []), (30, .aload_n 0, 1, 0, 0, []), (31, .iload_n 1, 1, 0, 0, [])]
def xm_177_1 : List xEn := [(32, .iconst 0, 1, 0, 0, []), (33, .invokevirtual 68, 3, 0, 0, []), (36, .iload 5, 2, 0, 0, []), (38, .iload_n 2, 1, 0, 0, []), (39, .invokestatic 71, 3, 0, 0, []), (42, .iload_n 3, 1, 0, 0, []), (43, .if_icmp .ne 7, 3, 50, 0, []), (46, .iconst 1, 1, 0, 1, []), (47, .goto 4, 3, 51, 0, []), (50, .iconst 0, 1, 0, 0, []), (51, .iadd, 1, 0, 0, []), (52, .istore 4, 2, 0, 0, []), (54, .iinc 5 1, 3, 0, 1, []), (57, .goto (-36), 3, 21, 0, []), (60, .iload 4, 2, 0, 0, []), (62, .ireturn, 1, 0, 0, [])]
/-- X6_fits -/
def xm_177 : xT := (6, [xm_177_0, xm_177_1], [(21, [0, 1, 2, 3, 4, 5], [], []), (62, [], [5600], [])], some .int, false, 6)
def xm_178_0 : List xEn := [(0, .aload_n 0, 1, 0, 0, []), (1, .iload_n 1, 1, 0, 0, []), (2, .iload_n 2, 1, 0, 0, []), (3, .invokevirtual 164, 3, 0, 0, []), (6, .ifCond .ne 9, 3, 15, 0, []), (9, .aload_n 0, 1, 0, 0, []), (10, .iconst 0, 1, 0, 0, []), (11, .invokevirtual 106, 3, 0, 0, []), (14, .ireturn, 1, 0, 0, []), (15, .iconst (-1), 1, 0, (-1), []), (16, .istore 4, 2, 0, 0, []), (18, .bipush 99, 2, 0, 99, []), (20, .istore 5, 2, 0, 0, []), (22, .iload 5, 2, 0, 0, []), (24, .ifCond .lt 34, 3, 58, 0, []), (27, .aload_n 0, 1, 0, 0, []), (28, .iload_n 1, 1, 0, 0, []), (29, .iconst 0, 1, 0, 0, []), (30, .invokevirtual 68, 3, 0, 0, [])]
def xm_178_1 : List xEn := [(33, .iload 5, 2, 0, 0, []), (35, .iload_n 2, 1, 0, 0, []), (36, .invokestatic 71, 3, 0, 0, []), (39, .iload_n 3, 1, 0, 0, []), (40, .if_icmp .ne 8, 3, 48, 0, []), (43, .iload 5, 2, 0, 0, []), (45, .goto 5, 3, 50, 0, []), (48, .iload 4, 2, 0, 0, []), (50, .istore 4, 2, 0, 0, []), (52, .iinc 5 (-1), 3, 0, (-1), []), (55, .goto (-33), 3, 22, 0, []), (58, .iload 4, 2, 0, 0, []), (60, .ifCond .ge 11, 3, 71, 0, []), (63, .aload_n 0, 1, 0, 0, [])]
def xm_178_2 : List xEn := [(64, .iconst 3, 1, 0, 3, []), (65, .invokevirtual 106, 3, 0, 0, []), (68, .goto 5, 3, 73, 0, []), (71, .iload 4, 2, 0, 0, []), (73, .ireturn, 1, 0, 0, [])]
/-- X6_love -/
def xm_178 : xT := (6, [xm_178_0, xm_178_1, xm_178_2], [(22, [0, 1, 2, 3, 4, 5], [], []), (73, [], [5600], [])], some .int, false, 6)
def xm_179_0 : List xEn := [(0, .aload_n 0, 1, 0, 0, []), (1, .getfield 9, 3, 0, 0, []), (4, .bipush 6, 2, 0, 6, []), (6, .iaload, 1, 0, 0, []), (7, .iload_n 1, 1, 0, 0, []), (8, .imul, 1, 0, 0, []), (9, .istore_n 2, 1, 0, 0, []), (10, .iload_n 2, 1, 0, 0, []), (11, .bipush 10, 2, 0, 10, []), (13, .if_icmp .le 8, 3, 21, 0, []), (16, .bipush 10, 2, 0, 10, []), (18, .goto 4, 3, 22, 0, []), (21, .iload_n 2, 1, 0, 0, []), (22, .ireturn, 1, 0, 0, [])]
/-- X6_silentAt -/
def xm_179 : xT := (6, [xm_179_0], [], some .int, false, 3)
def xm_180_0 : List xEn := [(0, .lconst 1, 1, 0, 0, []), (1, .lstore_n 1, 1, 0, 0, []), (2, .iconst 0, 1, 0, 0, []), (3, .istore_n 3, 1, 0, 0, []), (4, .iload_n 3, 1, 0, 0, []), (5, .iload_n 0, 1, 0, 0, []), (6, .if_icmp .ge 15, 3, 21, 0, []), (9, .lload_n 1, 1, 0, 0, []), (10, .ldc2_w 167, 3, 0, 0, []), (13, .lmul, 1, 0, 0, []), (14, .lstore_n 1, 1, 0, 0, []), (15, .iinc 3 1, 3, 0, 1, []), (18, .goto (-14), 3, 4, 0, []), (21, .lload_n 1, 1, 0, 0, []), (22, .lreturn, 1, 0, 0, [])]
/-- X6_tens -/
def xm_180 : xT := (6, [xm_180_0], [(4, [0, 1, 3], [], [])], some .long, false, 4)
def xm_181_0 : List xEn := [(0, .lconst 0, 1, 0, 0, []), (1, .lstore_n 2, 1, 0, 0, []), (2, .bipush 7, 2, 0, 7, []), (4, .istore 4, 2, 0, 0, []), (6, .iload 4, 2, 0, 0, []), (8, .iload_n 1, 1, 0, 0, []), (9, .if_icmp .lt 96, 3, 105, 0, []), (12, .ldc2_w 167, 3, 0, 0, []), (15, .aload_n 0, 1, 0, 0, []), (16, .iload 4, 2, 0, 0, []), (18, .invokevirtual 169, 3, 0, 0, []), (21, .i2l, 1, 0, 0, []), (22, .lsub, 1, 0, 0, []), (23, .aload_n 0, 1, 0, 0, []), (24, .getfield 9, 3, 0, 0, []), (27, .bipush 7, 2, 0, 7, []), (29, .iaload, 1, 0, 0, []), (30, .iload 4, 2, 0, 0, [])]
def xm_181_1 : List xEn := [(32, .aload_n 0, 1, 0, 0, []), (33, .getfield 9, 3, 0, 0, []), (36, .iconst 5, 1, 0, 5, []), (37, .iaload, 1, 0, 0, []), (38, .imul, 1, 0, 0, []), (39, .isub, 1, 0, 0, []), (40, .i2l, 1, 0, 0, []), (41, .lmul, 1, 0, 0, []), (42, .aload_n 0, 1, 0, 0, []), (43, .iload 4, 2, 0, 0, []), (45, .invokevirtual 169, 3, 0, 0, []), (48, .i2l, 1, 0, 0, []), (49, .aload_n 0, 1, 0, 0, []), (50, .getfield 9, 3, 0, 0, []), (53, .bipush 8, 2, 0, 8, []), (55, .iaload, 1, 0, 0, []), (56, .i2l, 1, 0, 0, []), (57, .lmul, 1, 0, 0, []), (58, .lsub, 1, 0, 0, []), (59, .lstore 5, 2, 0, 0, []), (61, .lload 5, 2, 0, 0, []), (63, .bipush 7, 2, 0, 7, [])]
def xm_181_2 : List xEn := [(65, .iload 4, 2, 0, 0, []), (67, .isub, 1, 0, 0, []), (68, .invokestatic 172, 3, 0, 0, []), (71, .lmul, 1, 0, 0, []), (72, .ldc2_w 167, 3, 0, 0, []), (75, .aload_n 0, 1, 0, 0, []), (76, .iload 4, 2, 0, 0, []), (78, .invokevirtual 169, 3, 0, 0, []), (81, .i2l, 1, 0, 0, []), (82, .lsub, 1, 0, 0, []), (83, .lload_n 2, 1, 0, 0, []), (84, .lmul, 1, 0, 0, []), (85, .ladd, 1, 0, 0, []), (86, .lstore_n 2, 1, 0, 0, []), (87, .lload_n 2, 1, 0, 0, []), (88, .lconst 0, 1, 0, 0, []), (89, .lcmp, 1, 0, 0, []), (90, .ifCond .ge 7, 3, 97, 0, []), (93, .lconst 0, 1, 0, 0, []), (94, .goto 4, 3, 98, 0, [])]
def xm_181_3 : List xEn := [(97, .lload_n 2, 1, 0, 0, []), (98, .lstore_n 2, 1, 0, 0, []), (99, .iinc 4 (-1), 3, 0, (-1), []), (102, .goto (-96), 3, 6, 0, []), (105, .lload_n 2, 1, 0, 0, []), (106, .lreturn, 1, 0, 0, [])]
/-- X6_worthFrom -/
def xm_181 : xT := (6, [xm_181_0, xm_181_1, xm_181_2, xm_181_3], [(6, [0, 1, 2, 4], [], [])], some .long, false, 7)
def xm_182_0 : List xEn := [(0, .iload_n 1, 1, 0, 0, []), (1, .iconst 0, 1, 0, 0, []), (2, .bipush 8, 2, 0, 8, []), (4, .invokestatic 60, 3, 0, 0, []), (7, .ifCond .eq 12, 3, 19, 0, []), (10, .iload_n 2, 1, 0, 0, []), (11, .iconst 0, 1, 0, 0, []), (12, .iconst 1, 1, 0, 1, []), (13, .invokestatic 60, 3, 0, 0, []), (16, .ifCond .ne 10, 3, 26, 0, []), (19, .aload_n 0, 1, 0, 0, []), (20, .iconst 0, 1, 0, 0, []), (21, .invokevirtual 106, 3, 0, 0, []), (24, .i2l, 1, 0, 0, []), (25, .lreturn, 1, 0, 0, []), (26, .aload_n 0, 1, 0, 0, []), (27, .iload_n 1, 1, 0, 0, []), (28, .invokevirtual 176, 3, 0, 0, []), (31, .lstore_n 3, 1, 0, 0, [])]
def xm_182_1 : List xEn := [(32, .bipush 8, 2, 0, 8, []), (34, .iload_n 1, 1, 0, 0, []), (35, .isub, 1, 0, 0, []), (36, .invokestatic 172, 3, 0, 0, []), (39, .lstore 5, 2, 0, 0, []), (41, .lload_n 3, 1, 0, 0, []), (42, .lstore 7, 2, 0, 0, []), (44, .lload 5, 2, 0, 0, []), (46, .lstore 9, 2, 0, 0, []), (48, .lload 9, 2, 0, 0, []), (50, .lconst 0, 1, 0, 0, []), (51, .lcmp, 1, 0, 0, []), (52, .ifCond .eq 21, 3, 73, 0, []), (55, .lload 7, 2, 0, 0, []), (57, .lload 9, 2, 0, 0, []), (59, .lrem, 1, 0, 0, []), (60, .lstore 11, 2, 0, 0, []), (62, .lload 9, 2, 0, 0, [])]
def xm_182_2 : List xEn := [(64, .lstore 7, 2, 0, 0, []), (66, .lload 11, 2, 0, 0, []), (68, .lstore 9, 2, 0, 0, []), (70, .goto (-22), 3, 48, 0, []), (73, .iload_n 2, 1, 0, 0, []), (74, .ifCond .ne 10, 3, 84, 0, []), (77, .lload_n 3, 1, 0, 0, []), (78, .lload 7, 2, 0, 0, []), (80, .ldiv, 1, 0, 0, []), (81, .goto 8, 3, 89, 0, []), (84, .lload 5, 2, 0, 0, []), (86, .lload 7, 2, 0, 0, []), (88, .ldiv, 1, 0, 0, []), (89, .lreturn, 1, 0, 0, [])]
/-- X6_curtain -/
def xm_182 : xT := (6, [xm_182_0, xm_182_1, xm_182_2], [(48, [2, 3, 5, 7, 9], [], []), (89, [], [5600], [])], some .long, false, 13)
def xm_183_0 : List xEn := [(0, .bipush 8, 2, 0, 8, []), (2, .istore_n 1, 1, 0, 0, []), (3, .iload_n 1, 1, 0, 0, []), (4, .ifCond .le 21, 3, 25, 0, []), (7, .aload_n 0, 1, 0, 0, []), (8, .iload_n 1, 1, 0, 0, []), (9, .iconst 1, 1, 0, 1, []), (10, .isub, 1, 0, 0, []), (11, .invokevirtual 176, 3, 0, 0, []), (14, .lconst 0, 1, 0, 0, []), (15, .lcmp, 1, 0, 0, []), (16, .ifCond .ne 9, 3, 25, 0, []), (19, .iinc 1 (-1), 3, 0, (-1), []), (22, .goto (-19), 3, 3, 0, []), (25, .iload_n 1, 1, 0, 0, []), (26, .ireturn, 1, 0, 0, [])]
/-- X6_stop -/
def xm_183 : xT := (6, [xm_183_0], [(3, [0, 1], [], [])], some .int, false, 2)
def xm_184_0 : List xEn := [(0, .aload_n 0, 1, 0, 0, []), (1, .getfield 9, 3, 0, 0, []), (4, .iconst 4, 1, 0, 4, []), (5, .aload_n 0, 1, 0, 0, []), (6, .getfield 9, 3, 0, 0, []), (9, .iconst 4, 1, 0, 4, []), (10, .iaload, 1, 0, 0, []), (11, .ldc 179, 2, 0, 0, []), (13, .imul, 1, 0, 0, []), (14, .sipush 12345, 3, 0, 12345, []), (17, .iadd, 1, 0, 0, []), (18, .iastore, 1, 0, 0, []), (19, .aload_n 0, 1, 0, 0, []), (20, .getfield 9, 3, 0, 0, []), (23, .iconst 4, 1, 0, 4, []), (24, .iaload, 1, 0, 0, []), (25, .bipush 8, 2, 0, 8, []), (27, .iushr, 1, 0, 0, []), (28, .ireturn, 1, 0, 0, [])]
/-- X6_draw -/
def xm_184 : xT := (6, [xm_184_0], [], some .int, false, 1)
def xm_185_0 : List xEn := [(0, .iload_n 1, 1, 0, 0, []), (1, .iconst 1, 1, 0, 1, []), (2, .bipush 8, 2, 0, 8, []), (4, .invokestatic 60, 3, 0, 0, []), (7, .ifCond .ne 9, 3, 16, 0, []), (10, .aload_n 0, 1, 0, 0, []), (11, .iconst 0, 1, 0, 0, []), (12, .invokevirtual 106, 3, 0, 0, []), (15, .ireturn, 1, 0, 0, []), (16, .iconst 0, 1, 0, 0, []), (17, .istore_n 2, 1, 0, 0, []), (18, .iconst 1, 1, 0, 1, []), (19, .istore_n 3, 1, 0, 0, []), (20, .iconst 0, 1, 0, 0, []), (21, .istore 4, 2, 0, 0, []), (23, .iload 4, 2, 0, 0, []), (25, .iload_n 1, 1, 0, 0, []), (26, .if_icmp .ge 74, 3, 100, 0, []), (29, .iload_n 3, 1, 0, 0, []), (30, .ifCond .eq 70, 3, 100, 0, [])]
def xm_185_1 : List xEn := [(33, .aload_n 0, 1, 0, 0, []), (34, .invokevirtual 180, 3, 0, 0, []), (37, .bipush 10, 2, 0, 10, []), (39, .irem, 1, 0, 0, []), (40, .aload_n 0, 1, 0, 0, []), (41, .getfield 9, 3, 0, 0, []), (44, .bipush 6, 2, 0, 6, []), (46, .iaload, 1, 0, 0, []), (47, .iload 4, 2, 0, 0, []), (49, .imul, 1, 0, 0, []), (50, .if_icmp .lt 7, 3, 57, 0, []), (53, .iconst 1, 1, 0, 1, []), (54, .goto 4, 3, 58, 0, []), (57, .iconst 0, 1, 0, 0, []), (58, .istore_n 3, 1, 0, 0, []), (59, .iload_n 2, 1, 0, 0, []), (60, .iload_n 3, 1, 0, 0, []), (61, .ifCond .eq 23, 3, 84, 0, [])]
def xm_185_2 : List xEn := [(64, .aload_n 0, 1, 0, 0, []), (65, .getfield 9, 3, 0, 0, []), (68, .bipush 7, 2, 0, 7, []), (70, .iaload, 1, 0, 0, []), (71, .iload 4, 2, 0, 0, []), (73, .aload_n 0, 1, 0, 0, []), (74, .getfield 9, 3, 0, 0, []), (77, .iconst 5, 1, 0, 5, []), (78, .iaload, 1, 0, 0, []), (79, .imul, 1, 0, 0, []), (80, .isub, 1, 0, 0, []), (81, .goto 11, 3, 92, 0, []), (84, .aload_n 0, 1, 0, 0, []), (85, .getfield 9, 3, 0, 0, []), (88, .bipush 8, 2, 0, 8, []), (90, .iaload, 1, 0, 0, []), (91, .ineg, 1, 0, 0, []), (92, .iadd, 1, 0, 0, []), (93, .istore_n 2, 1, 0, 0, []), (94, .iinc 4 1, 3, 0, 1, [])]
def xm_185_3 : List xEn := [(97, .goto (-74), 3, 23, 0, []), (100, .iload_n 2, 1, 0, 0, []), (101, .ireturn, 1, 0, 0, [])]
/-- X6_evening -/
def xm_185 : xT := (6, [xm_185_0, xm_185_1, xm_185_2, xm_185_3], [(15, [], [5300, 5600], []), (23, [0, 1, 2, 3, 4], [5300], []), (58, [0, 1, 2, 4], [5300], []), (101, [], [5300, 5600], [])], some .int, false, 5)
def xm_186_0 : List xEn := [(0, .iconst 0, 1, 0, 0, []), (1, .istore_n 1, 1, 0, 0, []), (2, .aload_n 0, 1, 0, 0, []), (3, .aload_n 0, 1, 0, 0, []), (4, .invokevirtual 123, 3, 0, 0, []), (7, .invokevirtual 129, 3, 0, 0, []), (10, .istore_n 2, 1, 0, 0, []), (11, .iload_n 2, 1, 0, 0, []), (12, .ifCond .eq 85, 3, 97, 0, []), (15, .aload_n 0, 1, 0, 0, []), (16, .invokevirtual 180, 3, 0, 0, []), (19, .iload_n 2, 1, 0, 0, []), (20, .invokestatic 152, 3, 0, 0, []), (23, .irem, 1, 0, 0, []), (24, .istore_n 3, 1, 0, 0, []), (25, .iconst 0, 1, 0, 0, []), (26, .istore 4, 2, 0, 0, []), (28, .iload_n 2, 1, 0, 0, []), (29, .iload 4, 2, 0, 0, []), (31, .invokestatic 82, 3, 0, 0, [])]
def xm_186_1 : List xEn := [(34, .ifCond .eq 7, 3, 41, 0, []), (37, .iload_n 3, 1, 0, 0, []), (38, .ifCond .le 26, 3, 64, 0, []), (41, .iload_n 3, 1, 0, 0, []), (42, .iload_n 2, 1, 0, 0, []), (43, .iload 4, 2, 0, 0, []), (45, .invokestatic 82, 3, 0, 0, []), (48, .ifCond .eq 7, 3, 55, 0, []), (51, .iconst 1, 1, 0, 1, []), (52, .goto 4, 3, 56, 0, []), (55, .iconst 0, 1, 0, 0, []), (56, .isub, 1, 0, 0, []), (57, .istore_n 3, 1, 0, 0, []), (58, .iinc 4 1, 3, 0, 1, []), (61, .goto (-33), 3, 28, 0, [])]
def xm_186_2 : List xEn := [(64, .aload_n 0, 1, 0, 0, []), (65, .iload 4, 2, 0, 0, []), (67, .invokevirtual 126, 3, 0, 0, []), (70, .istore 5, 2, 0, 0, []), (72, .iload_n 1, 1, 0, 0, []), (73, .iload 5, 2, 0, 0, []), (75, .ifCond .ge 7, 3, 82, 0, []), (78, .iconst 0, 1, 0, 0, []), (79, .goto 4, 3, 83, 0, []), (82, .iconst 1, 1, 0, 1, []), (83, .iadd, 1, 0, 0, []), (84, .istore_n 1, 1, 0, 0, []), (85, .aload_n 0, 1, 0, 0, []), (86, .aload_n 0, 1, 0, 0, []), (87, .invokevirtual 123, 3, 0, 0, []), (90, .invokevirtual 129, 3, 0, 0, []), (93, .istore_n 2, 1, 0, 0, []), (94, .goto (-83), 3, 11, 0, [])]
def xm_186_3 : List xEn := [(97, .iload_n 1, 1, 0, 0, []), (98, .ireturn, 1, 0, 0, [])]
/-- X6_lot -/
def xm_186 : xT := (6, [xm_186_0, xm_186_1, xm_186_2, xm_186_3], [(11, [0, 1, 2], [5300], []), (28, [0, 1, 2, 3, 4], [5300], []), (41, [0, 1, 2, 3, 4], [5300], []), (83, [0], [5300], []), (98, [], [5300], [])], some .int, false, 6)
def xm_187_0 : List xEn := [(0, .aload_n 0, 1, 0, 0, []), (1, .getfield 9, 3, 0, 0, []), (4, .iconst 4, 1, 0, 4, []), (5, .iaload, 1, 0, 0, []), (6, .istore_n 2, 1, 0, 0, []), (7, .aload_n 0, 1, 0, 0, []), (8, .getfield 9, 3, 0, 0, []), (11, .iconst 4, 1, 0, 4, []), (12, .iload_n 1, 1, 0, 0, []), (13, .iastore, 1, 0, 0, []), (14, .iload_n 2, 1, 0, 0, []), (15, .ireturn, 1, 0, 0, [])]
/-- X6_seed -/
def xm_187 : xT := (6, [xm_187_0], [], some .int, false, 3)
def xm_188_0 : List xEn := [(0, .iconst 0, 1, 0, 0, []), (1, .istore_n 1, 1, 0, 0, []), (2, .iload_n 1, 1, 0, 0, []), (3, .bipush 83, 2, 0, 83, []), (5, .if_icmp .ge 21, 3, 26, 0, []), (8, .aload_n 0, 1, 0, 0, []), (9, .getfield 16, 3, 0, 0, []), (12, .iload_n 1, 1, 0, 0, []), (13, .aload_n 0, 1, 0, 0, []), (14, .getfield 9, 3, 0, 0, []), (17, .iload_n 1, 1, 0, 0, []), (18, .iaload, 1, 0, 0, []), (19, .iastore, 1, 0, 0, []), (20, .iinc 1 1, 3, 0, 1, []), (23, .goto (-21), 3, 2, 0, []), (26, .return_, 1, 0, 0, [])]
/-- X6_setsAside -/
def xm_188 : xT := (6, [xm_188_0], [(2, [0, 1], [5500], []), (26, [], [5500], [])], none, false, 2)
def xm_189_0 : List xEn := [(0, .iconst 0, 1, 0, 0, []), (1, .istore_n 1, 1, 0, 0, []), (2, .iload_n 1, 1, 0, 0, []), (3, .bipush 83, 2, 0, 83, []), (5, .if_icmp .ge 21, 3, 26, 0, []), (8, .aload_n 0, 1, 0, 0, []), (9, .getfield 9, 3, 0, 0, []), (12, .iload_n 1, 1, 0, 0, []), (13, .aload_n 0, 1, 0, 0, []), (14, .getfield 16, 3, 0, 0, []), (17, .iload_n 1, 1, 0, 0, []), (18, .iaload, 1, 0, 0, []), (19, .iastore, 1, 0, 0, []), (20, .iinc 1 1, 3, 0, 1, []), (23, .goto (-21), 3, 2, 0, []), (26, .return_, 1, 0, 0, [])]
/-- X6_laysBack -/
def xm_189 : xT := (6, [xm_189_0], [(2, [0, 1], [5300], []), (26, [], [5300], [])], none, false, 2)
def xm_190_0 : List xEn := [(0, .iload_n 2, 1, 0, 0, []), (1, .iconst 1, 1, 0, 1, []), (2, .iconst 4, 1, 0, 4, []), (3, .invokestatic 60, 3, 0, 0, []), (6, .ifCond .ne 9, 3, 15, 0, []), (9, .aload_n 0, 1, 0, 0, []), (10, .iconst 0, 1, 0, 0, []), (11, .invokevirtual 106, 3, 0, 0, []), (14, .ireturn, 1, 0, 0, []), (15, .aload_n 0, 1, 0, 0, []), (16, .getfield 183, 3, 0, 0, []), (19, .iload_n 2, 1, 0, 0, []), (20, .iadd, 1, 0, 0, []), (21, .bipush 120, 2, 0, 120, []), (23, .if_icmp .le 9, 3, 32, 0, []), (26, .aload_n 0, 1, 0, 0, []), (27, .iconst 1, 1, 0, 1, []), (28, .invokevirtual 106, 3, 0, 0, []), (31, .ireturn, 1, 0, 0, [])]
def xm_190_1 : List xEn := [(32, .iload_n 2, 1, 0, 0, []), (33, .iconst 1, 1, 0, 1, []), (34, .isub, 1, 0, 0, []), (35, .istore_n 3, 1, 0, 0, []), (36, .iload_n 3, 1, 0, 0, []), (37, .ifCond .lt 38, 3, 75, 0, []), (40, .aload_n 0, 1, 0, 0, []), (41, .getfield 34, 3, 0, 0, []), (44, .aload_n 0, 1, 0, 0, []), (45, .getfield 183, 3, 0, 0, []), (48, .iload_n 1, 1, 0, 0, []), (49, .bipush 8, 2, 0, 8, []), (51, .iload_n 3, 1, 0, 0, []), (52, .imul, 1, 0, 0, []), (53, .ishr, 1, 0, 0, []), (54, .sipush 255, 3, 0, 255, []), (57, .iand, 1, 0, 0, []), (58, .iastore, 1, 0, 0, []), (59, .aload_n 0, 1, 0, 0, []), (60, .dup, 1, 0, 0, []), (61, .getfield 183, 3, 0, 0, [])]
def xm_190_2 : List xEn := [(64, .iconst 1, 1, 0, 1, []), (65, .iadd, 1, 0, 0, []), (66, .putfield 183, 3, 0, 0, []), (69, .iinc 3 (-1), 3, 0, (-1), []), (72, .goto (-36), 3, 36, 0, []), (75, .aload_n 0, 1, 0, 0, []), (76, .getfield 183, 3, 0, 0, []), (79, .ireturn, 1, 0, 0, [])]
/-- X6_feed -/
def xm_190 : xT := (6, [xm_190_0, xm_190_1, xm_190_2], [(14, [], [5213, 5600, 6100], []), (31, [], [5213, 5600, 6100], []), (36, [0, 1, 3], [5213, 6100], []), (79, [], [5213, 5600, 6100], [])], some .int, false, 4)
def xm_191_0 : List xEn := [(0, .aload_n 0, 1, 0, 0, []), (1, .getfield 183, 3, 0, 0, []), (4, .istore_n 1, 1, 0, 0, []), (5, .aload_n 0, 1, 0, 0, []), (6, .iconst 0, 1, 0, 0, []), (7, .putfield 183, 3, 0, 0, []), (10, .iload_n 1, 1, 0, 0, []), (11, .ireturn, 1, 0, 0, [])]
/-- X6_wipe -/
def xm_191 : xT := (6, [xm_191_0], [], some .int, false, 2)
def xm_192_0 : List xEn := [(0, .iload_n 0, 1, 0, 0, []), (1, .bipush 97, 2, 0, 97, []), (3, .bipush 122, 2, 0, 122, []), (5, .invokestatic 60, 3, 0, 0, []), (8, .ireturn, 1, 0, 0, [])]
/-- X6_isLetter -/
def xm_192 : xT := (6, [xm_192_0], [], some .boolean, false, 1)
def xm_193_0 : List xEn := [(0, .iload_n 0, 1, 0, 0, []), (1, .bipush 48, 2, 0, 48, []), (3, .bipush 57, 2, 0, 57, []), (5, .invokestatic 60, 3, 0, 0, []), (8, .ireturn, 1, 0, 0, [])]
/-- X6_isDigit -/
def xm_193 : xT := (6, [xm_193_0], [], some .boolean, false, 1)
def xm_194_0 : List xEn := [(0, .aload_n 0, 1, 0, 0, []), (1, .aload_n 0, 1, 0, 0, []), (2, .getfield 186, 3, 0, 0, []), (5, .putfield 189, 3, 0, 0, []), (8, .aload_n 0, 1, 0, 0, []), (9, .getfield 189, 3, 0, 0, []), (12, .aload_n 0, 1, 0, 0, []), (13, .getfield 183, 3, 0, 0, []), (16, .if_icmp .ge 30, 3, 46, 0, []), (19, .aload_n 0, 1, 0, 0, []), (20, .getfield 34, 3, 0, 0, []), (23, .aload_n 0, 1, 0, 0, []), (24, .getfield 189, 3, 0, 0, []), (27, .iaload, 1, 0, 0, []), (28, .bipush 32, 2, 0, 32, []), (30, .if_icmp .ne 16, 3, 46, 0, [])]
def xm_194_1 : List xEn := [(33, .aload_n 0, 1, 0, 0, []), (34, .dup, 1, 0, 0, []), (35, .getfield 189, 3, 0, 0, []), (38, .iconst 1, 1, 0, 1, []), (39, .iadd, 1, 0, 0, []), (40, .putfield 189, 3, 0, 0, []), (43, .goto (-35), 3, 8, 0, []), (46, .aload_n 0, 1, 0, 0, []), (47, .aload_n 0, 1, 0, 0, []), (48, .getfield 189, 3, 0, 0, []), (51, .putfield 186, 3, 0, 0, []), (54, .aload_n 0, 1, 0, 0, []), (55, .lconst 0, 1, 0, 0, []), (56, .putfield 192, 3, 0, 0, []), (59, .aload_n 0, 1, 0, 0, []), (60, .getfield 189, 3, 0, 0, []), (63, .aload_n 0, 1, 0, 0, [])]
def xm_194_2 : List xEn := [(64, .getfield 183, 3, 0, 0, []), (67, .if_icmp .ne 11, 3, 78, 0, []), (70, .aload_n 0, 1, 0, 0, []), (71, .iconst 0, 1, 0, 0, []), (72, .putfield 196, 3, 0, 0, []), (75, .goto 262, 3, 337, 0, []), (78, .aload_n 0, 1, 0, 0, []), (79, .getfield 34, 3, 0, 0, []), (82, .aload_n 0, 1, 0, 0, []), (83, .getfield 189, 3, 0, 0, []), (86, .iaload, 1, 0, 0, []), (87, .invokestatic 199, 3, 0, 0, []), (90, .ifCond .eq 92, 3, 182, 0, []), (93, .aload_n 0, 1, 0, 0, []), (94, .iconst 1, 1, 0, 1, []), (95, .putfield 196, 3, 0, 0, [])]
def xm_194_3 : List xEn := [(98, .aload_n 0, 1, 0, 0, []), (99, .getfield 186, 3, 0, 0, []), (102, .aload_n 0, 1, 0, 0, []), (103, .getfield 183, 3, 0, 0, []), (106, .if_icmp .ge 231, 3, 337, 0, []), (109, .aload_n 0, 1, 0, 0, []), (110, .getfield 34, 3, 0, 0, []), (113, .aload_n 0, 1, 0, 0, []), (114, .getfield 186, 3, 0, 0, []), (117, .iaload, 1, 0, 0, []), (118, .invokestatic 199, 3, 0, 0, []), (121, .ifCond .eq 216, 3, 337, 0, []), (124, .aload_n 0, 1, 0, 0, []), (125, .aload_n 0, 1, 0, 0, []), (126, .getfield 192, 3, 0, 0, [])]
def xm_194_4 : List xEn := [(129, .ldc2_w 202, 3, 0, 0, []), (132, .lcmp, 1, 0, 0, []), (133, .ifCond .le 10, 3, 143, 0, []), (136, .aload_n 0, 1, 0, 0, []), (137, .getfield 192, 3, 0, 0, []), (140, .goto 26, 3, 166, 0, []), (143, .aload_n 0, 1, 0, 0, []), (144, .getfield 192, 3, 0, 0, []), (147, .ldc2_w 204, 3, 0, 0, []), (150, .lmul, 1, 0, 0, []), (151, .aload_n 0, 1, 0, 0, []), (152, .getfield 34, 3, 0, 0, []), (155, .aload_n 0, 1, 0, 0, []), (156, .getfield 186, 3, 0, 0, []), (159, .iaload, 1, 0, 0, [])]
def xm_194_5 : List xEn := [(160, .i2l, 1, 0, 0, []), (161, .ladd, 1, 0, 0, []), (162, .ldc2_w 206, 3, 0, 0, []), (165, .lsub, 1, 0, 0, []), (166, .putfield 192, 3, 0, 0, []), (169, .aload_n 0, 1, 0, 0, []), (170, .dup, 1, 0, 0, []), (171, .getfield 186, 3, 0, 0, []), (174, .iconst 1, 1, 0, 1, []), (175, .iadd, 1, 0, 0, []), (176, .putfield 186, 3, 0, 0, []), (179, .goto (-81), 3, 98, 0, []), (182, .aload_n 0, 1, 0, 0, []), (183, .getfield 34, 3, 0, 0, []), (186, .aload_n 0, 1, 0, 0, []), (187, .getfield 189, 3, 0, 0, []), (190, .iaload, 1, 0, 0, []), (191, .invokestatic 208, 3, 0, 0, [])]
def xm_194_6 : List xEn := [(194, .ifCond .eq 110, 3, 304, 0, []), (197, .aload_n 0, 1, 0, 0, []), (198, .getfield 186, 3, 0, 0, []), (201, .aload_n 0, 1, 0, 0, []), (202, .getfield 183, 3, 0, 0, []), (205, .if_icmp .ge 76, 3, 281, 0, []), (208, .aload_n 0, 1, 0, 0, []), (209, .getfield 34, 3, 0, 0, []), (212, .aload_n 0, 1, 0, 0, []), (213, .getfield 186, 3, 0, 0, []), (216, .iaload, 1, 0, 0, []), (217, .invokestatic 208, 3, 0, 0, []), (220, .ifCond .eq 61, 3, 281, 0, []), (223, .aload_n 0, 1, 0, 0, [])]
def xm_194_7 : List xEn := [(224, .aload_n 0, 1, 0, 0, []), (225, .getfield 192, 3, 0, 0, []), (228, .ldc2_w 211, 3, 0, 0, []), (231, .lcmp, 1, 0, 0, []), (232, .ifCond .le 10, 3, 242, 0, []), (235, .aload_n 0, 1, 0, 0, []), (236, .getfield 192, 3, 0, 0, []), (239, .goto 26, 3, 265, 0, []), (242, .aload_n 0, 1, 0, 0, []), (243, .getfield 192, 3, 0, 0, []), (246, .ldc2_w 167, 3, 0, 0, []), (249, .lmul, 1, 0, 0, []), (250, .aload_n 0, 1, 0, 0, []), (251, .getfield 34, 3, 0, 0, []), (254, .aload_n 0, 1, 0, 0, []), (255, .getfield 186, 3, 0, 0, [])]
def xm_194_8 : List xEn := [(258, .iaload, 1, 0, 0, []), (259, .i2l, 1, 0, 0, []), (260, .ladd, 1, 0, 0, []), (261, .ldc2_w 213, 3, 0, 0, []), (264, .lsub, 1, 0, 0, []), (265, .putfield 192, 3, 0, 0, []), (268, .aload_n 0, 1, 0, 0, []), (269, .dup, 1, 0, 0, []), (270, .getfield 186, 3, 0, 0, []), (273, .iconst 1, 1, 0, 1, []), (274, .iadd, 1, 0, 0, []), (275, .putfield 186, 3, 0, 0, []), (278, .goto (-81), 3, 197, 0, []), (281, .aload_n 0, 1, 0, 0, []), (282, .aload_n 0, 1, 0, 0, []), (283, .getfield 192, 3, 0, 0, []), (286, .ldc2_w 211, 3, 0, 0, [])]
def xm_194_9 : List xEn := [(289, .lcmp, 1, 0, 0, []), (290, .ifCond .le 7, 3, 297, 0, []), (293, .iconst 4, 1, 0, 4, []), (294, .goto 4, 3, 298, 0, []), (297, .iconst 2, 1, 0, 2, []), (298, .putfield 196, 3, 0, 0, []), (301, .goto 36, 3, 337, 0, []), (304, .aload_n 0, 1, 0, 0, []), (305, .aload_n 0, 1, 0, 0, []), (306, .getfield 34, 3, 0, 0, []), (309, .aload_n 0, 1, 0, 0, []), (310, .getfield 189, 3, 0, 0, []), (313, .iaload, 1, 0, 0, []), (314, .bipush 59, 2, 0, 59, []), (316, .if_icmp .ne 7, 3, 323, 0, []), (319, .iconst 3, 1, 0, 3, [])]
def xm_194_10 : List xEn := [(320, .goto 4, 3, 324, 0, []), (323, .iconst 4, 1, 0, 4, []), (324, .putfield 196, 3, 0, 0, []), (327, .aload_n 0, 1, 0, 0, []), (328, .dup, 1, 0, 0, []), (329, .getfield 186, 3, 0, 0, []), (332, .iconst 1, 1, 0, 1, []), (333, .iadd, 1, 0, 0, []), (334, .putfield 186, 3, 0, 0, []), (337, .return_, 1, 0, 0, [])]
/-- X6_nextToken -/
def xm_194 : xT := (6, [xm_194_0, xm_194_1, xm_194_2, xm_194_3, xm_194_4, xm_194_5, xm_194_6, xm_194_7, xm_194_8, xm_194_9, xm_194_10], [(8, [0], [5215], []), (46, [0], [5215], []), (98, [0], [5214, 5215, 5216], []), (197, [0], [5215, 5216], []), (281, [0], [5215, 5216], [])], none, false, 1)
def xm_195_0 : List xEn := [(0, .iconst (-1), 1, 0, (-1), []), (1, .istore_n 2, 1, 0, 0, []), (2, .iconst 0, 1, 0, 0, []), (3, .istore_n 3, 1, 0, 0, []), (4, .iload_n 3, 1, 0, 0, []), (5, .aload_n 1, 1, 0, 0, []), (6, .arraylength, 1, 0, 0, []), (7, .bipush 8, 2, 0, 8, []), (9, .idiv, 1, 0, 0, []), (10, .if_icmp .ge 94, 3, 104, 0, []), (13, .aload_n 0, 1, 0, 0, []), (14, .getfield 196, 3, 0, 0, []), (17, .iconst 1, 1, 0, 1, []), (18, .if_icmp .ne 86, 3, 104, 0, []), (21, .lconst 0, 1, 0, 0, []), (22, .lstore 4, 2, 0, 0, []), (24, .iconst 0, 1, 0, 0, []), (25, .istore 6, 2, 0, 0, []), (27, .iload 6, 2, 0, 0, []), (29, .bipush 8, 2, 0, 8, []), (31, .if_icmp .ge 51, 3, 82, 0, [])]
def xm_195_1 : List xEn := [(34, .aload_n 1, 1, 0, 0, []), (35, .bipush 8, 2, 0, 8, []), (37, .iload_n 3, 1, 0, 0, []), (38, .imul, 1, 0, 0, []), (39, .iload 6, 2, 0, 0, []), (41, .iadd, 1, 0, 0, []), (42, .caload, 1, 0, 0, []), (43, .bipush 32, 2, 0, 32, []), (45, .if_icmp .ne 8, 3, 53, 0, []), (48, .lload 4, 2, 0, 0, []), (50, .goto 24, 3, 74, 0, []), (53, .lload 4, 2, 0, 0, []), (55, .ldc2_w 204, 3, 0, 0, []), (58, .lmul, 1, 0, 0, []), (59, .aload_n 1, 1, 0, 0, []), (60, .bipush 8, 2, 0, 8, []), (62, .iload_n 3, 1, 0, 0, []), (63, .imul, 1, 0, 0, [])]
def xm_195_2 : List xEn := [(64, .iload 6, 2, 0, 0, []), (66, .iadd, 1, 0, 0, []), (67, .caload, 1, 0, 0, []), (68, .i2l, 1, 0, 0, []), (69, .ladd, 1, 0, 0, []), (70, .ldc2_w 206, 3, 0, 0, []), (73, .lsub, 1, 0, 0, []), (74, .lstore 4, 2, 0, 0, []), (76, .iinc 6 1, 3, 0, 1, []), (79, .goto (-52), 3, 27, 0, []), (82, .lload 4, 2, 0, 0, []), (84, .aload_n 0, 1, 0, 0, []), (85, .getfield 192, 3, 0, 0, []), (88, .lcmp, 1, 0, 0, []), (89, .ifCond .ne 7, 3, 96, 0, []), (92, .iload_n 3, 1, 0, 0, []), (93, .goto 4, 3, 97, 0, [])]
def xm_195_3 : List xEn := [(96, .iload_n 2, 1, 0, 0, []), (97, .istore_n 2, 1, 0, 0, []), (98, .iinc 3 1, 3, 0, 1, []), (101, .goto (-97), 3, 4, 0, []), (104, .iload_n 2, 1, 0, 0, []), (105, .ireturn, 1, 0, 0, [])]
/-- X6_wordOf -/
def xm_195 : xT := (6, [xm_195_0, xm_195_1, xm_195_2, xm_195_3], [(4, [0, 1, 2, 3], [], []), (27, [0, 1, 2, 3, 4, 6], [], [])], some .int, false, 7)
def xm_196_0 : List xEn := [(0, .aload_n 0, 1, 0, 0, []), (1, .getfield 196, 3, 0, 0, []), (4, .iconst 2, 1, 0, 2, []), (5, .if_icmp .ne 24, 3, 29, 0, []), (8, .aload_n 0, 1, 0, 0, []), (9, .getfield 192, 3, 0, 0, []), (12, .l2i, 1, 0, 0, []), (13, .iload_n 1, 1, 0, 0, []), (14, .iload_n 2, 1, 0, 0, []), (15, .invokestatic 60, 3, 0, 0, []), (18, .ifCond .eq 11, 3, 29, 0, []), (21, .aload_n 0, 1, 0, 0, []), (22, .getfield 192, 3, 0, 0, []), (25, .l2i, 1, 0, 0, []), (26, .goto 4, 3, 30, 0, []), (29, .iconst (-1), 1, 0, (-1), []), (30, .istore_n 3, 1, 0, 0, []), (31, .iload_n 3, 1, 0, 0, [])]
def xm_196_1 : List xEn := [(32, .ifCond .lt 7, 3, 39, 0, []), (35, .aload_n 0, 1, 0, 0, []), (36, .invokevirtual 215, 3, 0, 0, []), (39, .iload_n 3, 1, 0, 0, []), (40, .ireturn, 1, 0, 0, [])]
/-- X6_takesNumber -/
def xm_196 : xT := (6, [xm_196_0, xm_196_1], [(30, [0], [], []), (40, [], [5214, 5215, 5216], [])], some .int, false, 4)
def xm_197_0 : List xEn := [(0, .aload_n 0, 1, 0, 0, []), (1, .getfield 9, 3, 0, 0, []), (4, .iconst 3, 1, 0, 3, []), (5, .iaload, 1, 0, 0, []), (6, .bipush 9, 2, 0, 9, []), (8, .if_icmp .ne 5, 3, 13, 0, []), (11, .iconst 0, 1, 0, 0, []), (12, .ireturn, 1, 0, 0, []), (13, .aload_n 0, 1, 0, 0, []), (14, .getfield 9, 3, 0, 0, []), (17, .iconst 3, 1, 0, 3, []), (18, .iaload, 1, 0, 0, []), (19, .istore_n 2, 1, 0, 0, []), (20, .aload_n 0, 1, 0, 0, []), (21, .invokevirtual 117, 3, 0, 0, []), (24, .istore_n 3, 1, 0, 0, []), (25, .aload_n 0, 1, 0, 0, []), (26, .iload_n 1, 1, 0, 0, []), (27, .invokevirtual 109, 3, 0, 0, []), (30, .aload_n 0, 1, 0, 0, []), (31, .invokevirtual 215, 3, 0, 0, [])]
def xm_197_1 : List xEn := [(34, .iconst 0, 1, 0, 0, []), (35, .istore 4, 2, 0, 0, []), (37, .iload 4, 2, 0, 0, []), (39, .iconst 3, 1, 0, 3, []), (40, .if_icmp .ge 83, 3, 123, 0, []), (43, .aload_n 0, 1, 0, 0, []), (44, .aload_n 0, 1, 0, 0, []), (45, .getfield 41, 3, 0, 0, []), (48, .invokevirtual 218, 3, 0, 0, []), (51, .iload 4, 2, 0, 0, []), (53, .if_icmp .ne 64, 3, 117, 0, []), (56, .aload_n 0, 1, 0, 0, []), (57, .invokevirtual 215, 3, 0, 0, []), (60, .aload_n 0, 1, 0, 0, []), (61, .iload 4, 2, 0, 0, []), (63, .iconst 1, 1, 0, 1, [])]
def xm_197_2 : List xEn := [(64, .if_icmp .ne 7, 3, 71, 0, []), (67, .iconst 1, 1, 0, 1, []), (68, .goto 4, 3, 72, 0, []), (71, .iconst 0, 1, 0, 0, []), (72, .iload 4, 2, 0, 0, []), (74, .ifCond .ne 8, 3, 82, 0, []), (77, .bipush 99, 2, 0, 99, []), (79, .goto 15, 3, 94, 0, []), (82, .iload 4, 2, 0, 0, []), (84, .iconst 1, 1, 0, 1, []), (85, .if_icmp .ne 8, 3, 93, 0, []), (88, .bipush 60, 2, 0, 60, []), (90, .goto 4, 3, 94, 0, []), (93, .iload_n 3, 1, 0, 0, []), (94, .invokevirtual 222, 3, 0, 0, [])]
def xm_197_3 : List xEn := [(97, .istore 5, 2, 0, 0, []), (99, .iload 5, 2, 0, 0, []), (101, .ifCond .ge 5, 3, 106, 0, []), (104, .iconst 0, 1, 0, 0, []), (105, .ireturn, 1, 0, 0, []), (106, .aload_n 0, 1, 0, 0, []), (107, .iload_n 2, 1, 0, 0, []), (108, .iconst 1, 1, 0, 1, []), (109, .iload 4, 2, 0, 0, []), (111, .iadd, 1, 0, 0, []), (112, .iload 5, 2, 0, 0, []), (114, .invokevirtual 102, 3, 0, 0, []), (117, .iinc 4 1, 3, 0, 1, []), (120, .goto (-83), 3, 37, 0, []), (123, .iconst 1, 1, 0, 1, []), (124, .ireturn, 1, 0, 0, [])]
/-- X6_readsBow -/
def xm_197 : xT := (6, [xm_197_0, xm_197_1, xm_197_2, xm_197_3], [(12, [], [5214, 5215, 5216, 5300], []), (37, [0, 2, 3, 4], [5214, 5215, 5216, 5300], []), (72, [0, 2, 3, 4], [5214, 5215, 5216, 5300], []), (94, [0, 2, 3, 4], [5214, 5215, 5216, 5300], [])], some .boolean, false, 6)
def xm_198_0 : List xEn := [(0, .aload_n 0, 1, 0, 0, []), (1, .iconst 0, 1, 0, 0, []), (2, .aload_n 0, 1, 0, 0, []), (3, .getfield 9, 3, 0, 0, []), (6, .iconst 3, 1, 0, 3, []), (7, .iaload, 1, 0, 0, []), (8, .iconst 1, 1, 0, 1, []), (9, .isub, 1, 0, 0, []), (10, .invokevirtual 222, 3, 0, 0, []), (13, .istore_n 1, 1, 0, 0, []), (14, .iload_n 1, 1, 0, 0, []), (15, .ifCond .lt 21, 3, 36, 0, []), (18, .aload_n 0, 1, 0, 0, []), (19, .getfield 196, 3, 0, 0, []), (22, .iconst 2, 1, 0, 2, []), (23, .if_icmp .ne 15, 3, 38, 0, []), (26, .aload_n 0, 1, 0, 0, []), (27, .getfield 192, 3, 0, 0, []), (30, .iload_n 1, 1, 0, 0, []), (31, .i2l, 1, 0, 0, [])]
def xm_198_1 : List xEn := [(32, .lcmp, 1, 0, 0, []), (33, .ifCond .ne 5, 3, 38, 0, []), (36, .iconst 0, 1, 0, 0, []), (37, .ireturn, 1, 0, 0, []), (38, .aload_n 0, 1, 0, 0, []), (39, .iconst 0, 1, 0, 0, []), (40, .aload_n 0, 1, 0, 0, []), (41, .getfield 9, 3, 0, 0, []), (44, .iconst 3, 1, 0, 3, []), (45, .iaload, 1, 0, 0, []), (46, .iconst 1, 1, 0, 1, []), (47, .isub, 1, 0, 0, []), (48, .invokevirtual 222, 3, 0, 0, []), (51, .istore_n 2, 1, 0, 0, []), (52, .iload_n 2, 1, 0, 0, []), (53, .ifCond .ge 5, 3, 58, 0, []), (56, .iconst 0, 1, 0, 0, []), (57, .ireturn, 1, 0, 0, []), (58, .aload_n 0, 1, 0, 0, []), (59, .iload_n 2, 1, 0, 0, []), (60, .iconst 3, 1, 0, 3, []), (61, .aload_n 0, 1, 0, 0, []), (62, .iload_n 2, 1, 0, 0, []), (63, .iconst 3, 1, 0, 3, [])]
def xm_198_2 : List xEn := [(64, .invokevirtual 68, 3, 0, 0, []), (67, .iconst 1, 1, 0, 1, []), (68, .iload_n 1, 1, 0, 0, []), (69, .ishl, 1, 0, 0, []), (70, .ior, 1, 0, 0, []), (71, .invokevirtual 102, 3, 0, 0, []), (74, .iconst 1, 1, 0, 1, []), (75, .ireturn, 1, 0, 0, [])]
/-- X6_readsContract -/
def xm_198 : xT := (6, [xm_198_0, xm_198_1, xm_198_2], [(37, [], [5214, 5215, 5216, 5300], []), (38, [0, 1], [5214, 5215, 5216], []), (57, [], [5214, 5215, 5216, 5300], [])], some .boolean, false, 3)
def xm_199_0 : List xEn := [(0, .aload_n 0, 1, 0, 0, []), (1, .aload_n 0, 1, 0, 0, []), (2, .getfield 37, 3, 0, 0, []), (5, .invokevirtual 218, 3, 0, 0, []), (8, .istore_n 1, 1, 0, 0, []), (9, .iload_n 1, 1, 0, 0, []), (10, .ifCond .lt 9, 3, 19, 0, []), (13, .aload_n 0, 1, 0, 0, []), (14, .iload_n 1, 1, 0, 0, []), (15, .invokevirtual 225, 3, 0, 0, []), (18, .ireturn, 1, 0, 0, []), (19, .aload_n 0, 1, 0, 0, []), (20, .aload_n 0, 1, 0, 0, []), (21, .getfield 44, 3, 0, 0, []), (24, .invokevirtual 218, 3, 0, 0, []), (27, .istore_n 2, 1, 0, 0, []), (28, .iload_n 2, 1, 0, 0, []), (29, .ifCond .ge 5, 3, 34, 0, [])]
def xm_199_1 : List xEn := [(32, .iconst 0, 1, 0, 0, []), (33, .ireturn, 1, 0, 0, []), (34, .aload_n 0, 1, 0, 0, []), (35, .invokevirtual 215, 3, 0, 0, []), (38, .iload_n 2, 1, 0, 0, []), (39, .iconst 5, 1, 0, 5, []), (40, .if_icmp .ne 8, 3, 48, 0, []), (43, .aload_n 0, 1, 0, 0, []), (44, .invokevirtual 228, 3, 0, 0, []), (47, .ireturn, 1, 0, 0, []), (48, .aload_n 0, 1, 0, 0, []), (49, .iconst 0, 1, 0, 0, []), (50, .iload_n 2, 1, 0, 0, []), (51, .invokestatic 120, 3, 0, 0, []), (54, .invokevirtual 222, 3, 0, 0, []), (57, .istore_n 3, 1, 0, 0, []), (58, .aload_n 0, 1, 0, 0, []), (59, .getfield 9, 3, 0, 0, []), (62, .iconst 5, 1, 0, 5, []), (63, .iload_n 2, 1, 0, 0, [])]
def xm_199_2 : List xEn := [(64, .iadd, 1, 0, 0, []), (65, .iload_n 3, 1, 0, 0, []), (66, .ifCond .ge 14, 3, 80, 0, []), (69, .aload_n 0, 1, 0, 0, []), (70, .getfield 9, 3, 0, 0, []), (73, .iconst 5, 1, 0, 5, []), (74, .iload_n 2, 1, 0, 0, []), (75, .iadd, 1, 0, 0, []), (76, .iaload, 1, 0, 0, []), (77, .goto 4, 3, 81, 0, []), (80, .iload_n 3, 1, 0, 0, []), (81, .iastore, 1, 0, 0, []), (82, .iload_n 3, 1, 0, 0, []), (83, .ifCond .lt 7, 3, 90, 0, []), (86, .iconst 1, 1, 0, 1, []), (87, .goto 4, 3, 91, 0, []), (90, .iconst 0, 1, 0, 0, []), (91, .ireturn, 1, 0, 0, [])]
/-- X6_readsItem -/
def xm_199 : xT := (6, [xm_199_0, xm_199_1, xm_199_2], [(33, [], [5214, 5215, 5216, 5300], []), (81, [3], [5214, 5215, 5216], [])], some .boolean, false, 4)
def xm_200_0 : List xEn := [(0, .aload_n 0, 1, 0, 0, []), (1, .invokevirtual 232, 3, 0, 0, []), (4, .aload_n 0, 1, 0, 0, []), (5, .iconst 0, 1, 0, 0, []), (6, .putfield 186, 3, 0, 0, []), (9, .aload_n 0, 1, 0, 0, []), (10, .invokevirtual 215, 3, 0, 0, []), (13, .iconst 1, 1, 0, 1, []), (14, .istore_n 1, 1, 0, 0, []), (15, .aload_n 0, 1, 0, 0, []), (16, .invokevirtual 235, 3, 0, 0, []), (19, .istore_n 2, 1, 0, 0, []), (20, .iload_n 2, 1, 0, 0, []), (21, .ifCond .eq 26, 3, 47, 0, []), (24, .aload_n 0, 1, 0, 0, []), (25, .getfield 196, 3, 0, 0, []), (28, .iconst 3, 1, 0, 3, []), (29, .if_icmp .ne 18, 3, 47, 0, [])]
def xm_200_1 : List xEn := [(32, .aload_n 0, 1, 0, 0, []), (33, .invokevirtual 215, 3, 0, 0, []), (36, .aload_n 0, 1, 0, 0, []), (37, .invokevirtual 235, 3, 0, 0, []), (40, .istore_n 2, 1, 0, 0, []), (41, .iinc 1 1, 3, 0, 1, []), (44, .goto (-24), 3, 20, 0, []), (47, .iload_n 2, 1, 0, 0, []), (48, .ifCond .eq 14, 3, 62, 0, []), (51, .aload_n 0, 1, 0, 0, []), (52, .getfield 196, 3, 0, 0, []), (55, .ifCond .ne 7, 3, 62, 0, []), (58, .iconst 1, 1, 0, 1, []), (59, .goto 4, 3, 63, 0, []), (62, .iconst 0, 1, 0, 0, []), (63, .istore_n 2, 1, 0, 0, [])]
def xm_200_2 : List xEn := [(64, .aload_n 0, 1, 0, 0, []), (65, .iconst 0, 1, 0, 0, []), (66, .putfield 183, 3, 0, 0, []), (69, .iload_n 2, 1, 0, 0, []), (70, .ifCond .ne 14, 3, 84, 0, []), (73, .aload_n 0, 1, 0, 0, []), (74, .invokevirtual 238, 3, 0, 0, []), (77, .iconst (-1), 1, 0, (-1), []), (78, .aload_n 0, 1, 0, 0, []), (79, .getfield 189, 3, 0, 0, []), (82, .isub, 1, 0, 0, []), (83, .ireturn, 1, 0, 0, []), (84, .iload_n 1, 1, 0, 0, []), (85, .ireturn, 1, 0, 0, [])]
/-- X6_text -/
def xm_200 : xT := (6, [xm_200_0, xm_200_1, xm_200_2], [(20, [0, 1, 2], [5214, 5215, 5216, 5300, 5500], []), (47, [0, 1, 2], [5214, 5215, 5216, 5300, 5500], []), (63, [0, 1], [5214, 5215, 5216, 5300, 5500], [])], some .int, false, 3)
def xm_201_0 : List xEn := [(0, .iload_n 0, 1, 0, 0, []), (1, .iconst 0, 1, 0, 0, []), (2, .bipush 9, 2, 0, 9, []), (4, .invokestatic 60, 3, 0, 0, []), (7, .ireturn, 1, 0, 0, [])]
/-- X6_isSpot -/
def xm_201 : xT := (6, [xm_201_0], [], some .boolean, false, 1)
def xm_202_0 : List xEn := [(0, .iload_n 1, 1, 0, 0, []), (1, .invokestatic 241, 3, 0, 0, []), (4, .ifCond .eq 16, 3, 20, 0, []), (7, .iload_n 2, 1, 0, 0, []), (8, .iconst (-1), 1, 0, (-1), []), (9, .if_icmp .eq 17, 3, 26, 0, []), (12, .aload_n 0, 1, 0, 0, []), (13, .iload_n 2, 1, 0, 0, []), (14, .invokevirtual 113, 3, 0, 0, []), (17, .ifCond .ne 9, 3, 26, 0, []), (20, .aload_n 0, 1, 0, 0, []), (21, .iconst 0, 1, 0, 0, []), (22, .invokevirtual 106, 3, 0, 0, []), (25, .ireturn, 1, 0, 0, []), (26, .aload_n 0, 1, 0, 0, []), (27, .getfield 9, 3, 0, 0, []), (30, .bipush 73, 2, 0, 73, [])]
def xm_202_1 : List xEn := [(32, .iload_n 1, 1, 0, 0, []), (33, .iadd, 1, 0, 0, []), (34, .iload_n 2, 1, 0, 0, []), (35, .iastore, 1, 0, 0, []), (36, .iconst 1, 1, 0, 1, []), (37, .ireturn, 1, 0, 0, [])]
/-- X6_hold -/
def xm_202 : xT := (6, [xm_202_0, xm_202_1], [(25, [], [5300, 5600], []), (37, [], [5300, 5600], [])], some .int, false, 3)
def xm_203_0 : List xEn := [(0, .iload_n 0, 1, 0, 0, []), (1, .bipush 6, 2, 0, 6, []), (3, .if_icmp .ne 7, 3, 10, 0, []), (6, .iconst 5, 1, 0, 5, []), (7, .goto 22, 3, 29, 0, []), (10, .iload_n 0, 1, 0, 0, []), (11, .iconst 4, 1, 0, 4, []), (12, .if_icmp .ne 7, 3, 19, 0, []), (15, .iconst 3, 1, 0, 3, []), (16, .goto 13, 3, 29, 0, []), (19, .iload_n 0, 1, 0, 0, []), (20, .iconst 3, 1, 0, 3, []), (21, .if_icmp .ne 7, 3, 28, 0, []), (24, .iconst 2, 1, 0, 2, []), (25, .goto 4, 3, 29, 0, []), (28, .iconst 0, 1, 0, 0, []), (29, .ireturn, 1, 0, 0, [])]
/-- X6_above -/
def xm_203 : xT := (6, [xm_203_0], [], some .int, false, 1)
def xm_204_0 : List xEn := [(0, .iload_n 0, 1, 0, 0, []), (1, .iconst 0, 1, 0, 0, []), (2, .iconst 3, 1, 0, 3, []), (3, .invokestatic 60, 3, 0, 0, []), (6, .ireturn, 1, 0, 0, [])]
/-- X6_isSheet -/
def xm_204 : xT := (6, [xm_204_0], [], some .boolean, false, 1)
def xm_205_0 : List xEn := [(0, .iload_n 1, 1, 0, 0, []), (1, .invokestatic 244, 3, 0, 0, []), (4, .ifCond .ne 7, 3, 11, 0, []), (7, .iconst 0, 1, 0, 0, []), (8, .goto 17, 3, 25, 0, []), (11, .aload_n 0, 1, 0, 0, []), (12, .getfield 47, 3, 0, 0, []), (15, .iload_n 1, 1, 0, 0, []), (16, .iaload, 1, 0, 0, []), (17, .ifCond .ne 7, 3, 24, 0, []), (20, .iconst 5, 1, 0, 5, []), (21, .goto 4, 3, 25, 0, []), (24, .iconst (-1), 1, 0, (-1), []), (25, .ireturn, 1, 0, 0, [])]
/-- X6_wrongSheet -/
def xm_205 : xT := (6, [xm_205_0], [], some .int, false, 2)
def xm_206_0 : List xEn := [(0, .iload_n 1, 1, 0, 0, []), (1, .invokestatic 241, 3, 0, 0, []), (4, .ifCond .eq 13, 3, 17, 0, []), (7, .iload_n 2, 1, 0, 0, []), (8, .iconst 0, 1, 0, 0, []), (9, .bipush 6, 2, 0, 6, []), (11, .invokestatic 60, 3, 0, 0, []), (14, .ifCond .ne 9, 3, 23, 0, []), (17, .aload_n 0, 1, 0, 0, []), (18, .iconst 0, 1, 0, 0, []), (19, .invokevirtual 106, 3, 0, 0, []), (22, .ireturn, 1, 0, 0, []), (23, .aload_n 0, 1, 0, 0, []), (24, .getfield 9, 3, 0, 0, []), (27, .bipush 73, 2, 0, 73, []), (29, .iload_n 1, 1, 0, 0, []), (30, .iadd, 1, 0, 0, []), (31, .iaload, 1, 0, 0, [])]
def xm_206_1 : List xEn := [(32, .istore_n 3, 1, 0, 0, []), (33, .iload_n 3, 1, 0, 0, []), (34, .ifCond .ge 9, 3, 43, 0, []), (37, .aload_n 0, 1, 0, 0, []), (38, .iconst 5, 1, 0, 5, []), (39, .invokevirtual 106, 3, 0, 0, []), (42, .ireturn, 1, 0, 0, []), (43, .aload_n 0, 1, 0, 0, []), (44, .iload_n 3, 1, 0, 0, []), (45, .iconst 0, 1, 0, 0, []), (46, .invokevirtual 68, 3, 0, 0, []), (49, .istore 4, 2, 0, 0, []), (51, .iload 4, 2, 0, 0, []), (53, .iload_n 2, 1, 0, 0, []), (54, .if_icmp .eq 18, 3, 72, 0, []), (57, .iload 4, 2, 0, 0, []), (59, .ifCond .eq 13, 3, 72, 0, []), (62, .iload 4, 2, 0, 0, [])]
def xm_206_2 : List xEn := [(64, .invokestatic 247, 3, 0, 0, []), (67, .istore 4, 2, 0, 0, []), (69, .goto (-18), 3, 51, 0, []), (72, .iload 4, 2, 0, 0, []), (74, .iload_n 2, 1, 0, 0, []), (75, .if_icmp .ne 7, 3, 82, 0, []), (78, .iload_n 3, 1, 0, 0, []), (79, .goto 8, 3, 87, 0, []), (82, .aload_n 0, 1, 0, 0, []), (83, .iconst 2, 1, 0, 2, []), (84, .invokevirtual 106, 3, 0, 0, []), (87, .ireturn, 1, 0, 0, [])]
/-- X6_as -/
def xm_206 : xT := (6, [xm_206_0, xm_206_1, xm_206_2], [(51, [0, 2, 3, 4], [], []), (72, [0, 2, 3, 4], [], []), (87, [], [5600], [])], some .int, false, 5)
def xm_207_0 : List xEn := [(0, .iload_n 1, 1, 0, 0, []), (1, .invokestatic 244, 3, 0, 0, []), (4, .ifCond .eq 25, 3, 29, 0, []), (7, .iload_n 2, 1, 0, 0, []), (8, .ifCond .eq 27, 3, 35, 0, []), (11, .iload_n 2, 1, 0, 0, []), (12, .bipush 8, 2, 0, 8, []), (14, .if_icmp .eq 21, 3, 35, 0, []), (17, .iload_n 2, 1, 0, 0, []), (18, .bipush 16, 2, 0, 16, []), (20, .if_icmp .eq 15, 3, 35, 0, []), (23, .iload_n 2, 1, 0, 0, []), (24, .bipush 32, 2, 0, 32, []), (26, .if_icmp .eq 9, 3, 35, 0, []), (29, .aload_n 0, 1, 0, 0, []), (30, .iconst 0, 1, 0, 0, []), (31, .invokevirtual 106, 3, 0, 0, [])]
def xm_207_1 : List xEn := [(34, .ireturn, 1, 0, 0, []), (35, .iload_n 3, 1, 0, 0, []), (36, .ifCond .ge 10, 3, 46, 0, []), (39, .aload_n 0, 1, 0, 0, []), (40, .bipush 6, 2, 0, 6, []), (42, .invokevirtual 106, 3, 0, 0, []), (45, .ireturn, 1, 0, 0, []), (46, .iload_n 3, 1, 0, 0, []), (47, .bipush 40, 2, 0, 40, []), (49, .if_icmp .le 9, 3, 58, 0, []), (52, .aload_n 0, 1, 0, 0, []), (53, .iconst 0, 1, 0, 0, []), (54, .invokevirtual 106, 3, 0, 0, []), (57, .ireturn, 1, 0, 0, []), (58, .aload_n 0, 1, 0, 0, []), (59, .getfield 47, 3, 0, 0, []), (62, .iload_n 1, 1, 0, 0, []), (63, .iload_n 2, 1, 0, 0, [])]
def xm_207_2 : List xEn := [(64, .iastore, 1, 0, 0, []), (65, .aload_n 0, 1, 0, 0, []), (66, .getfield 50, 3, 0, 0, []), (69, .iload_n 1, 1, 0, 0, []), (70, .iload_n 2, 1, 0, 0, []), (71, .ifCond .ne 7, 3, 78, 0, []), (74, .iconst 0, 1, 0, 0, []), (75, .goto 4, 3, 79, 0, []), (78, .iload_n 3, 1, 0, 0, []), (79, .iastore, 1, 0, 0, []), (80, .iconst 0, 1, 0, 0, []), (81, .istore 4, 2, 0, 0, []), (83, .iload 4, 2, 0, 0, []), (85, .bipush 40, 2, 0, 40, []), (87, .if_icmp .ge 22, 3, 109, 0, []), (90, .aload_n 0, 1, 0, 0, []), (91, .getfield 53, 3, 0, 0, []), (94, .bipush 40, 2, 0, 40, [])]
def xm_207_3 : List xEn := [(96, .iload_n 1, 1, 0, 0, []), (97, .imul, 1, 0, 0, []), (98, .iload 4, 2, 0, 0, []), (100, .iadd, 1, 0, 0, []), (101, .iconst 0, 1, 0, 0, []), (102, .iastore, 1, 0, 0, []), (103, .iinc 4 1, 3, 0, 1, []), (106, .goto (-23), 3, 83, 0, []), (109, .aload_n 0, 1, 0, 0, []), (110, .getfield 50, 3, 0, 0, []), (113, .iload_n 1, 1, 0, 0, []), (114, .iaload, 1, 0, 0, []), (115, .ireturn, 1, 0, 0, [])]
/-- X6_sheet -/
def xm_207 : xT := (6, [xm_207_0, xm_207_1, xm_207_2, xm_207_3], [(34, [], [5600, 6500, 6600, 6700], []), (35, [0, 1, 2, 3], [], []), (45, [], [5600, 6500, 6600, 6700], []), (57, [], [5600, 6500, 6600, 6700], []), (83, [0, 1, 4], [6500, 6600, 6700], []), (115, [], [5600, 6500, 6600, 6700], [])], some .int, false, 5)
def xm_208_0 : List xEn := [(0, .aload_n 0, 1, 0, 0, []), (1, .iload_n 1, 1, 0, 0, []), (2, .invokevirtual 250, 3, 0, 0, []), (5, .istore 4, 2, 0, 0, []), (7, .iload 4, 2, 0, 0, []), (9, .ifCond .ge 22, 3, 31, 0, []), (12, .iload_n 2, 1, 0, 0, []), (13, .iconst 0, 1, 0, 0, []), (14, .aload_n 0, 1, 0, 0, []), (15, .getfield 50, 3, 0, 0, []), (18, .iload_n 1, 1, 0, 0, []), (19, .iaload, 1, 0, 0, []), (20, .iconst 1, 1, 0, 1, []), (21, .isub, 1, 0, 0, []), (22, .invokestatic 60, 3, 0, 0, []), (25, .ifCond .ne 6, 3, 31, 0, []), (28, .iconst 0, 1, 0, 0, []), (29, .istore 4, 2, 0, 0, []), (31, .iload 4, 2, 0, 0, [])]
def xm_208_1 : List xEn := [(33, .ifCond .lt 10, 3, 43, 0, []), (36, .aload_n 0, 1, 0, 0, []), (37, .iload 4, 2, 0, 0, []), (39, .invokevirtual 106, 3, 0, 0, []), (42, .ireturn, 1, 0, 0, []), (43, .aload_n 0, 1, 0, 0, []), (44, .getfield 53, 3, 0, 0, []), (47, .bipush 40, 2, 0, 40, []), (49, .iload_n 1, 1, 0, 0, []), (50, .imul, 1, 0, 0, []), (51, .iload_n 2, 1, 0, 0, []), (52, .iadd, 1, 0, 0, []), (53, .aload_n 0, 1, 0, 0, []), (54, .getfield 47, 3, 0, 0, []), (57, .iload_n 1, 1, 0, 0, []), (58, .iaload, 1, 0, 0, []), (59, .bipush 8, 2, 0, 8, []), (61, .if_icmp .ne 8, 3, 69, 0, [])]
def xm_208_2 : List xEn := [(64, .iload_n 3, 1, 0, 0, []), (65, .i2b, 1, 0, 0, []), (66, .goto 20, 3, 86, 0, []), (69, .aload_n 0, 1, 0, 0, []), (70, .getfield 47, 3, 0, 0, []), (73, .iload_n 1, 1, 0, 0, []), (74, .iaload, 1, 0, 0, []), (75, .bipush 16, 2, 0, 16, []), (77, .if_icmp .ne 8, 3, 85, 0, []), (80, .iload_n 3, 1, 0, 0, []), (81, .i2s, 1, 0, 0, []), (82, .goto 4, 3, 86, 0, []), (85, .iload_n 3, 1, 0, 0, []), (86, .iastore, 1, 0, 0, []), (87, .iconst 1, 1, 0, 1, []), (88, .ireturn, 1, 0, 0, [])]
/-- X6_write -/
def xm_208 : xT := (6, [xm_208_0, xm_208_1, xm_208_2], [(31, [0, 1, 2, 3, 4], [], []), (42, [], [5600, 6700], []), (88, [], [5600, 6700], [])], some .int, false, 5)
def xm_209_0 : List xEn := [(0, .iload_n 1, 1, 0, 0, []), (1, .invokestatic 244, 3, 0, 0, []), (4, .ifCond .eq 10, 3, 14, 0, []), (7, .iload_n 3, 1, 0, 0, []), (8, .invokestatic 244, 3, 0, 0, []), (11, .ifCond .ne 9, 3, 20, 0, []), (14, .aload_n 0, 1, 0, 0, []), (15, .iconst 0, 1, 0, 0, []), (16, .invokevirtual 106, 3, 0, 0, []), (19, .ireturn, 1, 0, 0, []), (20, .aload_n 0, 1, 0, 0, []), (21, .getfield 47, 3, 0, 0, []), (24, .iload_n 1, 1, 0, 0, []), (25, .iaload, 1, 0, 0, []), (26, .ifCond .eq 12, 3, 38, 0, []), (29, .aload_n 0, 1, 0, 0, []), (30, .getfield 47, 3, 0, 0, [])]
def xm_209_1 : List xEn := [(33, .iload_n 3, 1, 0, 0, []), (34, .iaload, 1, 0, 0, []), (35, .ifCond .ne 9, 3, 44, 0, []), (38, .aload_n 0, 1, 0, 0, []), (39, .iconst 5, 1, 0, 5, []), (40, .invokevirtual 106, 3, 0, 0, []), (43, .ireturn, 1, 0, 0, []), (44, .aload_n 0, 1, 0, 0, []), (45, .getfield 47, 3, 0, 0, []), (48, .iload_n 1, 1, 0, 0, []), (49, .iaload, 1, 0, 0, []), (50, .aload_n 0, 1, 0, 0, []), (51, .getfield 47, 3, 0, 0, []), (54, .iload_n 3, 1, 0, 0, []), (55, .iaload, 1, 0, 0, []), (56, .if_icmp .eq 9, 3, 65, 0, []), (59, .aload_n 0, 1, 0, 0, []), (60, .iconst 2, 1, 0, 2, []), (61, .invokevirtual 106, 3, 0, 0, [])]
def xm_209_2 : List xEn := [(64, .ireturn, 1, 0, 0, []), (65, .iload 5, 2, 0, 0, []), (67, .ifCond .lt 39, 3, 106, 0, []), (70, .iload_n 2, 1, 0, 0, []), (71, .ifCond .lt 35, 3, 106, 0, []), (74, .iload 4, 2, 0, 0, []), (76, .ifCond .lt 30, 3, 106, 0, []), (79, .iload_n 2, 1, 0, 0, []), (80, .aload_n 0, 1, 0, 0, []), (81, .getfield 50, 3, 0, 0, []), (84, .iload_n 1, 1, 0, 0, []), (85, .iaload, 1, 0, 0, []), (86, .iload 5, 2, 0, 0, []), (88, .isub, 1, 0, 0, []), (89, .if_icmp .gt 17, 3, 106, 0, []), (92, .iload 4, 2, 0, 0, []), (94, .aload_n 0, 1, 0, 0, []), (95, .getfield 50, 3, 0, 0, [])]
def xm_209_3 : List xEn := [(98, .iload_n 3, 1, 0, 0, []), (99, .iaload, 1, 0, 0, []), (100, .iload 5, 2, 0, 0, []), (102, .isub, 1, 0, 0, []), (103, .if_icmp .le 9, 3, 112, 0, []), (106, .aload_n 0, 1, 0, 0, []), (107, .iconst 0, 1, 0, 0, []), (108, .invokevirtual 106, 3, 0, 0, []), (111, .ireturn, 1, 0, 0, []), (112, .iconst 0, 1, 0, 0, []), (113, .istore 6, 2, 0, 0, []), (115, .iload 6, 2, 0, 0, []), (117, .iload 5, 2, 0, 0, []), (119, .if_icmp .ge 30, 3, 149, 0, []), (122, .aload_n 0, 1, 0, 0, []), (123, .getfield 56, 3, 0, 0, []), (126, .iload 6, 2, 0, 0, [])]
def xm_209_4 : List xEn := [(128, .aload_n 0, 1, 0, 0, []), (129, .getfield 53, 3, 0, 0, []), (132, .bipush 40, 2, 0, 40, []), (134, .iload_n 1, 1, 0, 0, []), (135, .imul, 1, 0, 0, []), (136, .iload_n 2, 1, 0, 0, []), (137, .iadd, 1, 0, 0, []), (138, .iload 6, 2, 0, 0, []), (140, .iadd, 1, 0, 0, []), (141, .iaload, 1, 0, 0, []), (142, .iastore, 1, 0, 0, []), (143, .iinc 6 1, 3, 0, 1, []), (146, .goto (-31), 3, 115, 0, []), (149, .iconst 0, 1, 0, 0, []), (150, .istore 6, 2, 0, 0, []), (152, .iload 6, 2, 0, 0, []), (154, .iload 5, 2, 0, 0, []), (156, .if_icmp .ge 31, 3, 187, 0, []), (159, .aload_n 0, 1, 0, 0, [])]
def xm_209_5 : List xEn := [(160, .getfield 53, 3, 0, 0, []), (163, .bipush 40, 2, 0, 40, []), (165, .iload_n 3, 1, 0, 0, []), (166, .imul, 1, 0, 0, []), (167, .iload 4, 2, 0, 0, []), (169, .iadd, 1, 0, 0, []), (170, .iload 6, 2, 0, 0, []), (172, .iadd, 1, 0, 0, []), (173, .aload_n 0, 1, 0, 0, []), (174, .getfield 56, 3, 0, 0, []), (177, .iload 6, 2, 0, 0, []), (179, .iaload, 1, 0, 0, []), (180, .iastore, 1, 0, 0, []), (181, .iinc 6 1, 3, 0, 1, []), (184, .goto (-32), 3, 152, 0, []), (187, .iload 5, 2, 0, 0, []), (189, .ireturn, 1, 0, 0, [])]
/-- X6_copy -/
def xm_209 : xT := (6, [xm_209_0, xm_209_1, xm_209_2, xm_209_3, xm_209_4, xm_209_5], [(19, [], [5600, 6700, 6800], []), (43, [], [5600, 6700, 6800], []), (64, [], [5600, 6700, 6800], []), (111, [], [5600, 6700, 6800], []), (115, [0, 1, 2, 3, 4, 5, 6], [6800], []), (152, [0, 3, 4, 5, 6], [6700, 6800], []), (189, [], [5600, 6700, 6800], [])], some .int, false, 7)
def xm_210_0 : List xEn := [(0, .aload_n 0, 1, 0, 0, []), (1, .iload_n 1, 1, 0, 0, []), (2, .invokevirtual 250, 3, 0, 0, []), (5, .istore_n 2, 1, 0, 0, []), (6, .iload_n 2, 1, 0, 0, []), (7, .ifCond .lt 9, 3, 16, 0, []), (10, .aload_n 0, 1, 0, 0, []), (11, .iload_n 2, 1, 0, 0, []), (12, .invokevirtual 106, 3, 0, 0, []), (15, .ireturn, 1, 0, 0, []), (16, .iconst 0, 1, 0, 0, []), (17, .istore_n 3, 1, 0, 0, []), (18, .iload_n 3, 1, 0, 0, []), (19, .aload_n 0, 1, 0, 0, []), (20, .getfield 50, 3, 0, 0, []), (23, .iload_n 1, 1, 0, 0, []), (24, .iaload, 1, 0, 0, []), (25, .if_icmp .ge 54, 3, 79, 0, []), (28, .aload_n 0, 1, 0, 0, []), (29, .iload_n 3, 1, 0, 0, []), (30, .invokevirtual 113, 3, 0, 0, [])]
def xm_210_1 : List xEn := [(33, .ifCond .eq 46, 3, 79, 0, []), (36, .aload_n 0, 1, 0, 0, []), (37, .getfield 53, 3, 0, 0, []), (40, .bipush 40, 2, 0, 40, []), (42, .iload_n 1, 1, 0, 0, []), (43, .imul, 1, 0, 0, []), (44, .iload_n 3, 1, 0, 0, []), (45, .iadd, 1, 0, 0, []), (46, .iaload, 1, 0, 0, []), (47, .iconst 0, 1, 0, 0, []), (48, .bipush 99, 2, 0, 99, []), (50, .invokestatic 60, 3, 0, 0, []), (53, .ifCond .eq 26, 3, 79, 0, []), (56, .aload_n 0, 1, 0, 0, []), (57, .iload_n 3, 1, 0, 0, []), (58, .iconst 1, 1, 0, 1, []), (59, .aload_n 0, 1, 0, 0, []), (60, .getfield 53, 3, 0, 0, []), (63, .bipush 40, 2, 0, 40, [])]
def xm_210_2 : List xEn := [(65, .iload_n 1, 1, 0, 0, []), (66, .imul, 1, 0, 0, []), (67, .iload_n 3, 1, 0, 0, []), (68, .iadd, 1, 0, 0, []), (69, .iaload, 1, 0, 0, []), (70, .invokevirtual 102, 3, 0, 0, []), (73, .iinc 3 1, 3, 0, 1, []), (76, .goto (-58), 3, 18, 0, []), (79, .iload_n 3, 1, 0, 0, []), (80, .ireturn, 1, 0, 0, [])]
/-- X6_load -/
def xm_210 : xT := (6, [xm_210_0, xm_210_1, xm_210_2], [(15, [], [5300, 5600], []), (18, [0, 1, 3], [5300], []), (80, [], [5300, 5600], [])], some .int, false, 4)
def xm_211_0 : List xEn := [(0, .aload_n 0, 1, 0, 0, []), (1, .invokevirtual 123, 3, 0, 0, []), (4, .istore_n 2, 1, 0, 0, []), (5, .aload_n 0, 1, 0, 0, []), (6, .invokevirtual 89, 3, 0, 0, []), (9, .istore_n 3, 1, 0, 0, []), (10, .aload_n 0, 1, 0, 0, []), (11, .iconst 0, 1, 0, 0, []), (12, .putfield 253, 3, 0, 0, []), (15, .iconst 0, 1, 0, 0, []), (16, .istore 4, 2, 0, 0, []), (18, .iload 4, 2, 0, 0, []), (20, .aload_n 0, 1, 0, 0, []), (21, .getfield 50, 3, 0, 0, []), (24, .iload_n 1, 1, 0, 0, []), (25, .iaload, 1, 0, 0, []), (26, .if_icmp .ge 92, 3, 118, 0, []), (29, .aload_n 0, 1, 0, 0, []), (30, .aload_n 0, 1, 0, 0, []), (31, .getfield 53, 3, 0, 0, [])]
def xm_211_1 : List xEn := [(34, .bipush 40, 2, 0, 40, []), (36, .iload_n 1, 1, 0, 0, []), (37, .imul, 1, 0, 0, []), (38, .iload 4, 2, 0, 0, []), (40, .iadd, 1, 0, 0, []), (41, .iaload, 1, 0, 0, []), (42, .invokevirtual 113, 3, 0, 0, []), (45, .ifCond .eq 73, 3, 118, 0, []), (48, .aload_n 0, 1, 0, 0, []), (49, .aload_n 0, 1, 0, 0, []), (50, .getfield 53, 3, 0, 0, []), (53, .bipush 40, 2, 0, 40, []), (55, .iload_n 1, 1, 0, 0, []), (56, .imul, 1, 0, 0, []), (57, .iload 4, 2, 0, 0, []), (59, .iadd, 1, 0, 0, []), (60, .iaload, 1, 0, 0, []), (61, .iload_n 2, 1, 0, 0, []), (62, .invokevirtual 86, 3, 0, 0, [])]
def xm_211_2 : List xEn := [(65, .ifCond .eq 53, 3, 118, 0, []), (68, .aload_n 0, 1, 0, 0, []), (69, .getfield 53, 3, 0, 0, []), (72, .bipush 40, 2, 0, 40, []), (74, .iload_n 1, 1, 0, 0, []), (75, .imul, 1, 0, 0, []), (76, .iload 4, 2, 0, 0, []), (78, .iadd, 1, 0, 0, []), (79, .iaload, 1, 0, 0, []), (80, .istore 5, 2, 0, 0, []), (82, .aload_n 0, 1, 0, 0, []), (83, .dup, 1, 0, 0, []), (84, .getfield 253, 3, 0, 0, []), (87, .aload_n 0, 1, 0, 0, []), (88, .iload 5, 2, 0, 0, []), (90, .aload_n 0, 1, 0, 0, []), (91, .iload_n 3, 1, 0, 0, []), (92, .invokevirtual 93, 3, 0, 0, []), (95, .invokevirtual 96, 3, 0, 0, [])]
def xm_211_3 : List xEn := [(98, .iadd, 1, 0, 0, []), (99, .putfield 253, 3, 0, 0, []), (102, .iload_n 2, 1, 0, 0, []), (103, .iconst 1, 1, 0, 1, []), (104, .iload 5, 2, 0, 0, []), (106, .ishl, 1, 0, 0, []), (107, .ior, 1, 0, 0, []), (108, .istore_n 2, 1, 0, 0, []), (109, .iload 5, 2, 0, 0, []), (111, .istore_n 3, 1, 0, 0, []), (112, .iinc 4 1, 3, 0, 1, []), (115, .goto (-97), 3, 18, 0, []), (118, .iload 4, 2, 0, 0, []), (120, .ireturn, 1, 0, 0, [])]
/-- X6_comeOf -/
def xm_211 : xT := (6, [xm_211_0, xm_211_1, xm_211_2, xm_211_3], [(18, [0, 1, 2, 3, 4], [5225], [])], some .int, false, 6)
def xm_212_0 : List xEn := [(0, .aload_n 0, 1, 0, 0, []), (1, .iload_n 1, 1, 0, 0, []), (2, .invokevirtual 250, 3, 0, 0, []), (5, .istore_n 2, 1, 0, 0, []), (6, .iload_n 2, 1, 0, 0, []), (7, .ifCond .lt 9, 3, 16, 0, []), (10, .aload_n 0, 1, 0, 0, []), (11, .iload_n 2, 1, 0, 0, []), (12, .invokevirtual 106, 3, 0, 0, []), (15, .ireturn, 1, 0, 0, []), (16, .aload_n 0, 1, 0, 0, []), (17, .iload_n 1, 1, 0, 0, []), (18, .invokevirtual 256, 3, 0, 0, []), (21, .istore_n 3, 1, 0, 0, []), (22, .iload_n 3, 1, 0, 0, []), (23, .aload_n 0, 1, 0, 0, []), (24, .getfield 50, 3, 0, 0, []), (27, .iload_n 1, 1, 0, 0, []), (28, .iaload, 1, 0, 0, []), (29, .if_icmp .ne 7, 3, 36, 0, [])]
def xm_212_1 : List xEn := [(32, .iconst 0, 1, 0, 0, []), (33, .goto 6, 3, 39, 0, []), (36, .iconst 1, 1, 0, 1, []), (37, .iload_n 3, 1, 0, 0, []), (38, .iadd, 1, 0, 0, []), (39, .ireturn, 1, 0, 0, [])]
/-- X6_judge -/
def xm_212 : xT := (6, [xm_212_0, xm_212_1], [(15, [], [5225, 5600], []), (39, [], [5225, 5600], [])], some .int, false, 4)
def xm_213_0 : List xEn := [(0, .aload_n 0, 1, 0, 0, []), (1, .iload_n 1, 1, 0, 0, []), (2, .invokevirtual 250, 3, 0, 0, []), (5, .istore_n 2, 1, 0, 0, []), (6, .iload_n 2, 1, 0, 0, []), (7, .ifCond .lt 9, 3, 16, 0, []), (10, .aload_n 0, 1, 0, 0, []), (11, .iload_n 2, 1, 0, 0, []), (12, .invokevirtual 106, 3, 0, 0, []), (15, .ireturn, 1, 0, 0, []), (16, .aload_n 0, 1, 0, 0, []), (17, .iload_n 1, 1, 0, 0, []), (18, .invokevirtual 256, 3, 0, 0, []), (21, .istore_n 3, 1, 0, 0, []), (22, .iload_n 3, 1, 0, 0, []), (23, .aload_n 0, 1, 0, 0, []), (24, .getfield 50, 3, 0, 0, []), (27, .iload_n 1, 1, 0, 0, []), (28, .iaload, 1, 0, 0, []), (29, .if_icmp .ne 17, 3, 46, 0, [])]
def xm_213_1 : List xEn := [(32, .aload_n 0, 1, 0, 0, []), (33, .getfield 9, 3, 0, 0, []), (36, .iconst 0, 1, 0, 0, []), (37, .iaload, 1, 0, 0, []), (38, .aload_n 0, 1, 0, 0, []), (39, .getfield 253, 3, 0, 0, []), (42, .iadd, 1, 0, 0, []), (43, .goto 8, 3, 51, 0, []), (46, .aload_n 0, 1, 0, 0, []), (47, .iconst 4, 1, 0, 4, []), (48, .invokevirtual 106, 3, 0, 0, []), (51, .ireturn, 1, 0, 0, [])]
/-- X6_loud -/
def xm_213 : xT := (6, [xm_213_0, xm_213_1], [(15, [], [5225, 5600], []), (51, [], [5225, 5600], [])], some .int, false, 4)
def xm_214_0 : List xEn := [(0, .iconst 0, 1, 0, 0, []), (1, .istore_n 1, 1, 0, 0, []), (2, .iload_n 1, 1, 0, 0, []), (3, .bipush 83, 2, 0, 83, []), (5, .if_icmp .ge 21, 3, 26, 0, []), (8, .aload_n 0, 1, 0, 0, []), (9, .getfield 13, 3, 0, 0, []), (12, .iload_n 1, 1, 0, 0, []), (13, .aload_n 0, 1, 0, 0, []), (14, .getfield 9, 3, 0, 0, []), (17, .iload_n 1, 1, 0, 0, []), (18, .iaload, 1, 0, 0, []), (19, .iastore, 1, 0, 0, []), (20, .iinc 1 1, 3, 0, 1, []), (23, .goto (-21), 3, 2, 0, []), (26, .aload_n 0, 1, 0, 0, []), (27, .iconst 1, 1, 0, 1, []), (28, .putfield 259, 3, 0, 0, []), (31, .iconst 1, 1, 0, 1, [])]
def xm_214_1 : List xEn := [(32, .ireturn, 1, 0, 0, [])]
/-- X6_image -/
def xm_214 : xT := (6, [xm_214_0, xm_214_1], [(2, [0, 1], [5400], []), (32, [], [5204, 5400], [])], some .int, false, 2)
def xm_215_0 : List xEn := [(0, .aload_n 0, 1, 0, 0, []), (1, .getfield 259, 3, 0, 0, []), (4, .ifCond .ne 9, 3, 13, 0, []), (7, .aload_n 0, 1, 0, 0, []), (8, .iconst 3, 1, 0, 3, []), (9, .invokevirtual 106, 3, 0, 0, []), (12, .ireturn, 1, 0, 0, []), (13, .iconst 0, 1, 0, 0, []), (14, .istore_n 1, 1, 0, 0, []), (15, .iload_n 1, 1, 0, 0, []), (16, .bipush 83, 2, 0, 83, []), (18, .if_icmp .ge 21, 3, 39, 0, []), (21, .aload_n 0, 1, 0, 0, []), (22, .getfield 9, 3, 0, 0, []), (25, .iload_n 1, 1, 0, 0, []), (26, .aload_n 0, 1, 0, 0, []), (27, .getfield 13, 3, 0, 0, []), (30, .iload_n 1, 1, 0, 0, []), (31, .iaload, 1, 0, 0, [])]
def xm_215_1 : List xEn := [(32, .iastore, 1, 0, 0, []), (33, .iinc 1 1, 3, 0, 1, []), (36, .goto (-21), 3, 15, 0, []), (39, .aload_n 0, 1, 0, 0, []), (40, .getfield 9, 3, 0, 0, []), (43, .iconst 2, 1, 0, 2, []), (44, .iaload, 1, 0, 0, []), (45, .ireturn, 1, 0, 0, [])]
/-- X6_undo -/
def xm_215 : xT := (6, [xm_215_0, xm_215_1], [(12, [], [5300, 5600], []), (15, [0, 1], [5300], []), (45, [], [5300, 5600], [])], some .int, false, 2)
def xm_216_0 : List xEn := [(0, .aload_n 0, 1, 0, 0, []), (1, .getfield 259, 3, 0, 0, []), (4, .ifCond .eq 7, 3, 11, 0, []), (7, .iconst 1, 1, 0, 1, []), (8, .goto 4, 3, 12, 0, []), (11, .iconst 0, 1, 0, 0, []), (12, .istore_n 1, 1, 0, 0, []), (13, .aload_n 0, 1, 0, 0, []), (14, .iconst 0, 1, 0, 0, []), (15, .putfield 259, 3, 0, 0, []), (18, .iload_n 1, 1, 0, 0, []), (19, .ireturn, 1, 0, 0, [])]
/-- X6_tear -/
def xm_216 : xT := (6, [xm_216_0], [], some .int, false, 2)
def xm_217_0 : List xEn := [(0, .iconst 0, 1, 0, 0, []), (1, .istore_n 2, 1, 0, 0, []), (2, .iload_n 1, 1, 0, 0, []), (3, .tableswitch 175 0 7 #[45, 52, 59, 91, 98, 127, 132, 139], 45, 178, 0, [(0, 48), (1, 55), (2, 62), (3, 94), (4, 101), (5, 130), (6, 135), (7, 142)])]
def xm_217_1 : List xEn := [(48, .aload_n 0, 1, 0, 0, []), (49, .getfield 9, 3, 0, 0, []), (52, .iconst 2, 1, 0, 2, []), (53, .iaload, 1, 0, 0, []), (54, .ireturn, 1, 0, 0, []), (55, .aload_n 0, 1, 0, 0, []), (56, .getfield 9, 3, 0, 0, []), (59, .iconst 3, 1, 0, 3, []), (60, .iaload, 1, 0, 0, []), (61, .ireturn, 1, 0, 0, []), (62, .iconst 0, 1, 0, 0, []), (63, .istore_n 3, 1, 0, 0, [])]
def xm_217_2 : List xEn := [(64, .iload_n 3, 1, 0, 0, []), (65, .aload_n 0, 1, 0, 0, []), (66, .getfield 9, 3, 0, 0, []), (69, .iconst 3, 1, 0, 3, []), (70, .iaload, 1, 0, 0, []), (71, .if_icmp .ge 21, 3, 92, 0, []), (74, .iload_n 2, 1, 0, 0, []), (75, .aload_n 0, 1, 0, 0, []), (76, .iload_n 3, 1, 0, 0, []), (77, .iconst 3, 1, 0, 3, []), (78, .invokevirtual 68, 3, 0, 0, []), (81, .invokestatic 152, 3, 0, 0, []), (84, .iadd, 1, 0, 0, []), (85, .istore_n 2, 1, 0, 0, []), (86, .iinc 3 1, 3, 0, 1, []), (89, .goto (-25), 3, 64, 0, []), (92, .iload_n 2, 1, 0, 0, []), (93, .ireturn, 1, 0, 0, []), (94, .aload_n 0, 1, 0, 0, []), (95, .getfield 9, 3, 0, 0, [])]
def xm_217_3 : List xEn := [(98, .iconst 0, 1, 0, 0, []), (99, .iaload, 1, 0, 0, []), (100, .ireturn, 1, 0, 0, []), (101, .iconst 0, 1, 0, 0, []), (102, .istore_n 3, 1, 0, 0, []), (103, .iload_n 3, 1, 0, 0, []), (104, .aload_n 0, 1, 0, 0, []), (105, .getfield 9, 3, 0, 0, []), (108, .iconst 3, 1, 0, 3, []), (109, .iaload, 1, 0, 0, []), (110, .if_icmp .ge 18, 3, 128, 0, []), (113, .iload_n 2, 1, 0, 0, []), (114, .aload_n 0, 1, 0, 0, []), (115, .iload_n 3, 1, 0, 0, []), (116, .iconst 1, 1, 0, 1, []), (117, .invokevirtual 68, 3, 0, 0, []), (120, .iadd, 1, 0, 0, []), (121, .istore_n 2, 1, 0, 0, []), (122, .iinc 3 1, 3, 0, 1, []), (125, .goto (-22), 3, 103, 0, [])]
def xm_217_4 : List xEn := [(128, .iload_n 2, 1, 0, 0, []), (129, .ireturn, 1, 0, 0, []), (130, .aload_n 0, 1, 0, 0, []), (131, .getfield 183, 3, 0, 0, []), (134, .ireturn, 1, 0, 0, []), (135, .aload_n 0, 1, 0, 0, []), (136, .getfield 9, 3, 0, 0, []), (139, .iconst 4, 1, 0, 4, []), (140, .iaload, 1, 0, 0, []), (141, .ireturn, 1, 0, 0, []), (142, .iconst 0, 1, 0, 0, []), (143, .istore_n 3, 1, 0, 0, []), (144, .iload_n 3, 1, 0, 0, []), (145, .bipush 10, 2, 0, 10, []), (147, .if_icmp .ge 29, 3, 176, 0, []), (150, .iload_n 2, 1, 0, 0, []), (151, .aload_n 0, 1, 0, 0, []), (152, .getfield 9, 3, 0, 0, []), (155, .bipush 73, 2, 0, 73, []), (157, .iload_n 3, 1, 0, 0, []), (158, .iadd, 1, 0, 0, []), (159, .iaload, 1, 0, 0, [])]
def xm_217_5 : List xEn := [(160, .ifCond .lt 7, 3, 167, 0, []), (163, .iconst 1, 1, 0, 1, []), (164, .goto 4, 3, 168, 0, []), (167, .iconst 0, 1, 0, 0, []), (168, .iadd, 1, 0, 0, []), (169, .istore_n 2, 1, 0, 0, []), (170, .iinc 3 1, 3, 0, 1, []), (173, .goto (-29), 3, 144, 0, []), (176, .iload_n 2, 1, 0, 0, []), (177, .ireturn, 1, 0, 0, []), (178, .aload_n 0, 1, 0, 0, []), (179, .iconst 0, 1, 0, 0, []), (180, .invokevirtual 106, 3, 0, 0, []), (183, .ireturn, 1, 0, 0, [])]
/-- X6_count -/
def xm_217 : xT := (6, [xm_217_0, xm_217_1, xm_217_2, xm_217_3, xm_217_4, xm_217_5], [(54, [], [5600], []), (61, [], [5600], []), (64, [0, 2, 3], [], []), (93, [], [5600], []), (100, [], [5600], []), (103, [0, 2, 3], [], []), (129, [], [5600], []), (134, [], [5600], []), (141, [], [5600], []), (144, [0, 2, 3], [], []), (177, [], [5600], [])], some .int, false, 4)
def xm_218_0 : List xEn := [(0, .iload_n 1, 1, 0, 0, []), (1, .iconst (-1), 1, 0, (-1), []), (2, .bipush 6, 2, 0, 6, []), (4, .invokestatic 60, 3, 0, 0, []), (7, .ifCond .ne 9, 3, 16, 0, []), (10, .aload_n 0, 1, 0, 0, []), (11, .iconst 0, 1, 0, 0, []), (12, .invokevirtual 106, 3, 0, 0, []), (15, .ireturn, 1, 0, 0, []), (16, .iconst 0, 1, 0, 0, []), (17, .istore_n 2, 1, 0, 0, []), (18, .iconst 0, 1, 0, 0, []), (19, .istore_n 3, 1, 0, 0, []), (20, .iload_n 3, 1, 0, 0, []), (21, .bipush 7, 2, 0, 7, []), (23, .if_icmp .ge 32, 3, 55, 0, []), (26, .iload_n 2, 1, 0, 0, []), (27, .iload_n 1, 1, 0, 0, []), (28, .iconst (-1), 1, 0, (-1), []), (29, .if_icmp .eq 8, 3, 37, 0, [])]
def xm_218_1 : List xEn := [(32, .iload_n 1, 1, 0, 0, []), (33, .iload_n 3, 1, 0, 0, []), (34, .if_icmp .ne 12, 3, 46, 0, []), (37, .aload_n 0, 1, 0, 0, []), (38, .getfield 19, 3, 0, 0, []), (41, .iload_n 3, 1, 0, 0, []), (42, .iaload, 1, 0, 0, []), (43, .goto 4, 3, 47, 0, []), (46, .iconst 0, 1, 0, 0, []), (47, .iadd, 1, 0, 0, []), (48, .istore_n 2, 1, 0, 0, []), (49, .iinc 3 1, 3, 0, 1, []), (52, .goto (-32), 3, 20, 0, []), (55, .iload_n 2, 1, 0, 0, []), (56, .ireturn, 1, 0, 0, [])]
/-- X6_status -/
def xm_218 : xT := (6, [xm_218_0, xm_218_1], [(20, [0, 1, 2, 3], [], []), (56, [], [5600], [])], some .int, false, 4)
def xm_219_0 : List xEn := [(0, .iload_n 0, 1, 0, 0, []), (1, .iload_n 0, 1, 0, 0, []), (2, .iconst 1, 1, 0, 1, []), (3, .iushr, 1, 0, 0, []), (4, .ldc_w 265, 3, 0, 0, []), (7, .iand, 1, 0, 0, []), (8, .isub, 1, 0, 0, []), (9, .istore_n 0, 1, 0, 0, []), (10, .iload_n 0, 1, 0, 0, []), (11, .ldc_w 266, 3, 0, 0, []), (14, .iand, 1, 0, 0, []), (15, .iload_n 0, 1, 0, 0, []), (16, .iconst 2, 1, 0, 2, []), (17, .iushr, 1, 0, 0, []), (18, .ldc_w 266, 3, 0, 0, []), (21, .iand, 1, 0, 0, []), (22, .iadd, 1, 0, 0, []), (23, .istore_n 0, 1, 0, 0, []), (24, .iload_n 0, 1, 0, 0, []), (25, .iload_n 0, 1, 0, 0, []), (26, .iconst 4, 1, 0, 4, []), (27, .iushr, 1, 0, 0, []), (28, .iadd, 1, 0, 0, []), (29, .ldc_w 267, 3, 0, 0, [])]
def xm_219_1 : List xEn := [(32, .iand, 1, 0, 0, []), (33, .istore_n 0, 1, 0, 0, []), (34, .iload_n 0, 1, 0, 0, []), (35, .iload_n 0, 1, 0, 0, []), (36, .bipush 8, 2, 0, 8, []), (38, .iushr, 1, 0, 0, []), (39, .iadd, 1, 0, 0, []), (40, .istore_n 0, 1, 0, 0, []), (41, .iload_n 0, 1, 0, 0, []), (42, .iload_n 0, 1, 0, 0, []), (43, .bipush 16, 2, 0, 16, []), (45, .iushr, 1, 0, 0, []), (46, .iadd, 1, 0, 0, []), (47, .istore_n 0, 1, 0, 0, []), (48, .iload_n 0, 1, 0, 0, []), (49, .bipush 63, 2, 0, 63, []), (51, .iand, 1, 0, 0, []), (52, .ireturn, 1, 0, 0, [])]
/-- J6_bitCount_0f7a4 -/
def xm_219 : xT := (8, [xm_219_0, xm_219_1], [], some .int, false, 1)
def xm_220_0 : List xEn := [(0, .aload_n 0, 1, 0, 0, []), (1, .getfield 9, 3, 0, 0, []), (4, .arraylength, 1, 0, 0, []), (5, .aload_n 0, 1, 0, 0, []), (6, .invokevirtual 335, 3, 0, 0, []), (9, .ishr, 1, 0, 0, []), (10, .ireturn, 1, 0, 0, [])]
/-- J0_length_8abf5 -/
def xm_220 : xT := (10, [xm_220_0], [], some .int, false, 1)
def xm_221_0 : List xEn := [(0, .aload_n 0, 1, 0, 0, []), (1, .invokevirtual 492, 3, 0, 0, []), (4, .ifCond .eq 12, 3, 16, 0, []), (7, .aload_n 0, 1, 0, 0, []), (8, .getfield 9, 3, 0, 0, []), (11, .iload_n 1, 1, 0, 0, []), (12, .invokestatic 495, 3, 0, 0, []), (15, .ireturn, 1, 0, 0, []), (16, .aload_n 0, 1, 0, 0, []), (17, .getfield 9, 3, 0, 0, []), (20, .iload_n 1, 1, 0, 0, []), (21, .invokestatic 498, 3, 0, 0, []), (24, .ireturn, 1, 0, 0, [])]
/-- J0_charAt_5068e -/
def xm_221 : xT := (10, [xm_221_0], [], some .char, false, 2)
def xm_222_0 : List xEn := [(0, .getstatic 38, 3, 0, 0, []), (3, .ifCond .eq 10, 3, 13, 0, []), (6, .aload_n 0, 1, 0, 0, []), (7, .getfield 15, 3, 0, 0, []), (10, .goto 4, 3, 14, 0, []), (13, .iconst 1, 1, 0, 1, []), (14, .ireturn, 1, 0, 0, [])]
/-- J0_coder_7d493 -/
def xm_222 : xT := (10, [xm_222_0], [], some .byte, false, 1)
def xm_223_0 : List xEn := [(0, .getstatic 38, 3, 0, 0, []), (3, .ifCond .eq 14, 3, 17, 0, []), (6, .aload_n 0, 1, 0, 0, []), (7, .getfield 15, 3, 0, 0, []), (10, .ifCond .ne 7, 3, 17, 0, []), (13, .iconst 1, 1, 0, 1, []), (14, .goto 4, 3, 18, 0, []), (17, .iconst 0, 1, 0, 0, []), (18, .ireturn, 1, 0, 0, [])]
/-- J0_isLatin1_aae02 -/
def xm_223 : xT := (10, [xm_223_0], [], some .boolean, false, 1)
def xm_224_0 : List xEn := [(0, .iload_n 0, 1, 0, 0, []), (1, .iload_n 1, 1, 0, 0, []), (2, .getstatic 1053, 3, 0, 0, []), (5, .invokestatic 1059, 3, 0, 0, []), (8, .pop, 1, 0, 0, []), (9, .return_, 1, 0, 0, [])]
/-- J0_checkIndex_df160 -/
def xm_224 : xT := (10, [xm_224_0], [], none, false, 2)
def xm_225_0 : List xEn := [(0, .iload_n 1, 1, 0, 0, []), (1, .aload_n 0, 1, 0, 0, []), (2, .arraylength, 1, 0, 0, []), (3, .invokestatic 9, 3, 0, 0, []), (6, .aload_n 0, 1, 0, 0, []), (7, .iload_n 1, 1, 0, 0, []), (8, .baload, 1, 0, 0, []), (9, .sipush 255, 3, 0, 255, []), (12, .iand, 1, 0, 0, []), (13, .i2c, 1, 0, 0, []), (14, .ireturn, 1, 0, 0, [])]
/-- J1_charAt_3b067 -/
def xm_225 : xT := (11, [xm_225_0], [], some .char, false, 2)
def xm_226_0 : List xEn := [(0, .iload_n 0, 1, 0, 0, []), (1, .ifCond .lt 8, 3, 9, 0, []), (4, .iload_n 0, 1, 0, 0, []), (5, .iload_n 1, 1, 0, 0, []), (6, .if_icmp .lt 10, 3, 16, 0, []), (9, .aload_n 2, 1, 0, 0, []), (10, .iload_n 0, 1, 0, 0, []), (11, .iload_n 1, 1, 0, 0, []), (12, .invokestatic 95, 3, 0, 0, []), (15, .athrow, 1, 0, 0, []), (16, .iload_n 0, 1, 0, 0, []), (17, .ireturn, 1, 0, 0, [])]
/-- J3_checkIndex_8e157 -/
def xm_226 : xT := (12, [xm_226_0], [], some .int, false, 3)
def xm_227_0 : List xEn := [(0, .aload_n 0, 1, 0, 0, []), (1, .invokespecial 3, 3, 0, 0, []), (4, .aload_n 0, 1, 0, 0, []), (5, .bipush 9, 2, 0, 9, []), (7, .newarray .int, 2, 0, 0, []), (9, .putfield 9, 3, 0, 0, []), (12, .aload_n 0, 1, 0, 0, []), (13, .bipush 9, 2, 0, 9, []), (15, .newarray .int, 2, 0, 0, []), (17, .putfield 15, 3, 0, 0, []), (20, .aload_n 0, 1, 0, 0, []), (21, .bipush 9, 2, 0, 9, []), (23, .newarray .int, 2, 0, 0, []), (25, .putfield 18, 3, 0, 0, []), (28, .aload_n 0, 1, 0, 0, []), (29, .bipush 90, 2, 0, 90, []), (31, .newarray .int, 2, 0, 0, [])]
def xm_227_1 : List xEn := [(33, .putfield 21, 3, 0, 0, []), (36, .aload_n 0, 1, 0, 0, []), (37, .sipush 4608, 3, 0, 4608, []), (40, .newarray .int, 2, 0, 0, []), (42, .putfield 24, 3, 0, 0, []), (45, .aload_n 0, 1, 0, 0, []), (46, .bipush 9, 2, 0, 9, []), (48, .newarray .int, 2, 0, 0, []), (50, .putfield 27, 3, 0, 0, []), (53, .aload_n 0, 1, 0, 0, []), (54, .bipush 9, 2, 0, 9, []), (56, .newarray .int, 2, 0, 0, []), (58, .putfield 30, 3, 0, 0, []), (61, .aload_n 0, 1, 0, 0, []), (62, .sipush 512, 3, 0, 512, [])]
def xm_227_2 : List xEn := [(65, .newarray .int, 2, 0, 0, []), (67, .putfield 33, 3, 0, 0, []), (70, .aload_n 0, 1, 0, 0, []), (71, .bipush 9, 2, 0, 9, []), (73, .newarray .int, 2, 0, 0, []), (75, .putfield 36, 3, 0, 0, []), (78, .return_, 1, 0, 0, [])]
/-- X1_init -/
def xm_227 : xT := (1, [xm_227_0, xm_227_1, xm_227_2], [], none, true, 1)
def xm_228_0 : List xEn := [(0, .aload_n 0, 1, 0, 0, []), (1, .invokespecial 3, 3, 0, 0, []), (4, .aload_n 0, 1, 0, 0, []), (5, .bipush 9, 2, 0, 9, []), (7, .newarray .int, 2, 0, 0, []), (9, .putfield 9, 3, 0, 0, []), (12, .aload_n 0, 1, 0, 0, []), (13, .bipush 9, 2, 0, 9, []), (15, .newarray .int, 2, 0, 0, []), (17, .putfield 15, 3, 0, 0, []), (20, .aload_n 0, 1, 0, 0, []), (21, .bipush 9, 2, 0, 9, []), (23, .newarray .int, 2, 0, 0, []), (25, .putfield 18, 3, 0, 0, []), (28, .aload_n 0, 1, 0, 0, []), (29, .bipush 9, 2, 0, 9, []), (31, .newarray .int, 2, 0, 0, [])]
def xm_228_1 : List xEn := [(33, .putfield 21, 3, 0, 0, []), (36, .aload_n 0, 1, 0, 0, []), (37, .iconst 5, 1, 0, 5, []), (38, .newarray .int, 2, 0, 0, []), (40, .dup, 1, 0, 0, []), (41, .iconst 0, 1, 0, 0, []), (42, .iconst 1, 1, 0, 1, []), (43, .iastore, 1, 0, 0, []), (44, .dup, 1, 0, 0, []), (45, .iconst 1, 1, 0, 1, []), (46, .iconst 1, 1, 0, 1, []), (47, .iastore, 1, 0, 0, []), (48, .dup, 1, 0, 0, []), (49, .iconst 2, 1, 0, 2, []), (50, .bipush 20, 2, 0, 20, []), (52, .iastore, 1, 0, 0, []), (53, .dup, 1, 0, 0, []), (54, .iconst 3, 1, 0, 3, []), (55, .bipush 30, 2, 0, 30, []), (57, .iastore, 1, 0, 0, []), (58, .dup, 1, 0, 0, []), (59, .iconst 4, 1, 0, 4, []), (60, .bipush 60, 2, 0, 60, []), (62, .iastore, 1, 0, 0, []), (63, .putfield 24, 3, 0, 0, [])]
def xm_228_2 : List xEn := [(66, .aload_n 0, 1, 0, 0, []), (67, .bipush 9, 2, 0, 9, []), (69, .newarray .int, 2, 0, 0, []), (71, .putfield 27, 3, 0, 0, []), (74, .aload_n 0, 1, 0, 0, []), (75, .bipush 9, 2, 0, 9, []), (77, .newarray .int, 2, 0, 0, []), (79, .putfield 30, 3, 0, 0, []), (82, .aload_n 0, 1, 0, 0, []), (83, .bipush 9, 2, 0, 9, []), (85, .newarray .int, 2, 0, 0, []), (87, .putfield 33, 3, 0, 0, []), (90, .aload_n 0, 1, 0, 0, []), (91, .iconst 1, 1, 0, 1, []), (92, .putfield 36, 3, 0, 0, []), (95, .aload_n 0, 1, 0, 0, [])]
def xm_228_3 : List xEn := [(96, .bipush 10, 2, 0, 10, []), (98, .newarray .int, 2, 0, 0, []), (100, .dup, 1, 0, 0, []), (101, .iconst 0, 1, 0, 0, []), (102, .iconst (-1), 1, 0, (-1), []), (103, .iastore, 1, 0, 0, []), (104, .dup, 1, 0, 0, []), (105, .iconst 1, 1, 0, 1, []), (106, .iconst (-1), 1, 0, (-1), []), (107, .iastore, 1, 0, 0, []), (108, .dup, 1, 0, 0, []), (109, .iconst 2, 1, 0, 2, []), (110, .iconst (-1), 1, 0, (-1), []), (111, .iastore, 1, 0, 0, []), (112, .dup, 1, 0, 0, []), (113, .iconst 3, 1, 0, 3, []), (114, .iconst (-1), 1, 0, (-1), []), (115, .iastore, 1, 0, 0, []), (116, .dup, 1, 0, 0, []), (117, .iconst 4, 1, 0, 4, []), (118, .iconst (-1), 1, 0, (-1), []), (119, .iastore, 1, 0, 0, []), (120, .dup, 1, 0, 0, []), (121, .iconst 5, 1, 0, 5, []), (122, .iconst (-1), 1, 0, (-1), []), (123, .iastore, 1, 0, 0, []), (124, .dup, 1, 0, 0, []), (125, .bipush 6, 2, 0, 6, []), (127, .iconst (-1), 1, 0, (-1), [])]
def xm_228_4 : List xEn := [(128, .iastore, 1, 0, 0, []), (129, .dup, 1, 0, 0, []), (130, .bipush 7, 2, 0, 7, []), (132, .iconst (-1), 1, 0, (-1), []), (133, .iastore, 1, 0, 0, []), (134, .dup, 1, 0, 0, []), (135, .bipush 8, 2, 0, 8, []), (137, .iconst (-1), 1, 0, (-1), []), (138, .iastore, 1, 0, 0, []), (139, .dup, 1, 0, 0, []), (140, .bipush 9, 2, 0, 9, []), (142, .iconst (-1), 1, 0, (-1), []), (143, .iastore, 1, 0, 0, []), (144, .putfield 40, 3, 0, 0, []), (147, .return_, 1, 0, 0, [])]
/-- X2_init -/
def xm_228 : xT := (2, [xm_228_0, xm_228_1, xm_228_2, xm_228_3, xm_228_4], [], none, true, 1)
def xm_229_0 : List xEn := [(0, .aload_n 0, 1, 0, 0, []), (1, .invokespecial 3, 3, 0, 0, []), (4, .aload_n 0, 1, 0, 0, []), (5, .iconst 4, 1, 0, 4, []), (6, .newarray .int, 2, 0, 0, []), (8, .putfield 11, 3, 0, 0, []), (11, .aload_n 0, 1, 0, 0, []), (12, .iconst 4, 1, 0, 4, []), (13, .newarray .int, 2, 0, 0, []), (15, .putfield 15, 3, 0, 0, []), (18, .aload_n 0, 1, 0, 0, []), (19, .sipush 160, 3, 0, 160, []), (22, .newarray .int, 2, 0, 0, []), (24, .putfield 18, 3, 0, 0, []), (27, .return_, 1, 0, 0, [])]
/-- X3_init -/
def xm_229 : xT := (3, [xm_229_0], [], none, true, 1)
def xm_230_0 : List xEn := [(0, .aload_n 0, 1, 0, 0, []), (1, .invokespecial 5, 3, 0, 0, []), (4, .aload_n 0, 1, 0, 0, []), (5, .bipush 120, 2, 0, 120, []), (7, .newarray .int, 2, 0, 0, []), (9, .putfield 11, 3, 0, 0, []), (12, .aload_n 0, 1, 0, 0, []), (13, .bipush 121, 2, 0, 121, []), (15, .newarray .int, 2, 0, 0, []), (17, .putfield 15, 3, 0, 0, []), (20, .aload_n 0, 1, 0, 0, []), (21, .bipush 121, 2, 0, 121, []), (23, .newarray .int, 2, 0, 0, []), (25, .putfield 18, 3, 0, 0, []), (28, .aload_n 0, 1, 0, 0, []), (29, .bipush 121, 2, 0, 121, []), (31, .newarray .int, 2, 0, 0, [])]
def xm_230_1 : List xEn := [(33, .putfield 21, 3, 0, 0, []), (36, .aload_n 0, 1, 0, 0, []), (37, .bipush 121, 2, 0, 121, []), (39, .newarray .int, 2, 0, 0, []), (41, .putfield 24, 3, 0, 0, []), (44, .return_, 1, 0, 0, [])]
/-- X4_init -/
def xm_230 : xT := (4, [xm_230_0, xm_230_1], [], none, true, 1)
def xm_231_0 : List xEn := [(0, .aload_n 0, 1, 0, 0, []), (1, .invokespecial 3, 3, 0, 0, []), (4, .aload_n 0, 1, 0, 0, []), (5, .bipush 7, 2, 0, 7, []), (7, .newarray .int, 2, 0, 0, []), (9, .putfield 9, 3, 0, 0, []), (12, .aload_n 0, 1, 0, 0, []), (13, .new 13, 3, 0, 0, []), (16, .dup, 1, 0, 0, []), (17, .invokespecial 15, 3, 0, 0, []), (20, .putfield 16, 3, 0, 0, []), (23, .aload_n 0, 1, 0, 0, []), (24, .new 13, 3, 0, 0, []), (27, .dup, 1, 0, 0, []), (28, .invokespecial 15, 3, 0, 0, []), (31, .putfield 20, 3, 0, 0, [])]
def xm_231_1 : List xEn := [(34, .aload_n 0, 1, 0, 0, []), (35, .new 13, 3, 0, 0, []), (38, .dup, 1, 0, 0, []), (39, .invokespecial 15, 3, 0, 0, []), (42, .putfield 23, 3, 0, 0, []), (45, .aload_n 0, 1, 0, 0, []), (46, .new 26, 3, 0, 0, []), (49, .dup, 1, 0, 0, []), (50, .invokespecial 28, 3, 0, 0, []), (53, .putfield 29, 3, 0, 0, []), (56, .aload_n 0, 1, 0, 0, []), (57, .new 33, 3, 0, 0, []), (60, .dup, 1, 0, 0, []), (61, .invokespecial 35, 3, 0, 0, [])]
def xm_231_2 : List xEn := [(64, .putfield 36, 3, 0, 0, []), (67, .aload_n 0, 1, 0, 0, []), (68, .new 40, 3, 0, 0, []), (71, .dup, 1, 0, 0, []), (72, .invokespecial 42, 3, 0, 0, []), (75, .putfield 43, 3, 0, 0, []), (78, .aload_n 0, 1, 0, 0, []), (79, .iconst 0, 1, 0, 0, []), (80, .putfield 47, 3, 0, 0, []), (83, .return_, 1, 0, 0, [])]
/-- X5_init -/
def xm_231 : xT := (5, [xm_231_0, xm_231_1, xm_231_2], [], none, true, 1)
def xm_232_0 : List xEn := [(0, .aload_n 0, 1, 0, 0, []), (1, .invokespecial 1, 3, 0, 0, []), (4, .aload_n 0, 1, 0, 0, []), (5, .bipush 83, 2, 0, 83, []), (7, .newarray .int, 2, 0, 0, []), (9, .putfield 9, 3, 0, 0, []), (12, .aload_n 0, 1, 0, 0, []), (13, .bipush 83, 2, 0, 83, []), (15, .newarray .int, 2, 0, 0, []), (17, .putfield 13, 3, 0, 0, []), (20, .aload_n 0, 1, 0, 0, []), (21, .bipush 83, 2, 0, 83, []), (23, .newarray .int, 2, 0, 0, []), (25, .putfield 16, 3, 0, 0, []), (28, .aload_n 0, 1, 0, 0, []), (29, .bipush 7, 2, 0, 7, []), (31, .newarray .int, 2, 0, 0, [])]
def xm_232_1 : List xEn := [(33, .putfield 19, 3, 0, 0, []), (36, .aload_n 0, 1, 0, 0, []), (37, .sipush 5120, 3, 0, 5120, []), (40, .newarray .int, 2, 0, 0, []), (42, .putfield 22, 3, 0, 0, []), (45, .aload_n 0, 1, 0, 0, []), (46, .bipush 9, 2, 0, 9, []), (48, .newarray .int, 2, 0, 0, []), (50, .putfield 25, 3, 0, 0, []), (53, .aload_n 0, 1, 0, 0, []), (54, .sipush 512, 3, 0, 512, []), (57, .newarray .int, 2, 0, 0, []), (59, .putfield 28, 3, 0, 0, []), (62, .aload_n 0, 1, 0, 0, []), (63, .sipush 512, 3, 0, 512, [])]
def xm_232_2 : List xEn := [(66, .newarray .int, 2, 0, 0, []), (68, .putfield 31, 3, 0, 0, []), (71, .aload_n 0, 1, 0, 0, []), (72, .bipush 120, 2, 0, 120, []), (74, .newarray .int, 2, 0, 0, []), (76, .putfield 34, 3, 0, 0, []), (79, .aload_n 0, 1, 0, 0, []), (80, .bipush 56, 2, 0, 56, []), (82, .newarray .char, 2, 0, 0, []), (84, .dup, 1, 0, 0, []), (85, .iconst 0, 1, 0, 0, []), (86, .bipush 98, 2, 0, 98, []), (88, .castore, 1, 0, 0, []), (89, .dup, 1, 0, 0, []), (90, .iconst 1, 1, 0, 1, []), (91, .bipush 111, 2, 0, 111, []), (93, .castore, 1, 0, 0, []), (94, .dup, 1, 0, 0, []), (95, .iconst 2, 1, 0, 2, [])]
def xm_232_3 : List xEn := [(96, .bipush 119, 2, 0, 119, []), (98, .castore, 1, 0, 0, []), (99, .dup, 1, 0, 0, []), (100, .iconst 3, 1, 0, 3, []), (101, .bipush 32, 2, 0, 32, []), (103, .castore, 1, 0, 0, []), (104, .dup, 1, 0, 0, []), (105, .iconst 4, 1, 0, 4, []), (106, .bipush 32, 2, 0, 32, []), (108, .castore, 1, 0, 0, []), (109, .dup, 1, 0, 0, []), (110, .iconst 5, 1, 0, 5, []), (111, .bipush 32, 2, 0, 32, []), (113, .castore, 1, 0, 0, []), (114, .dup, 1, 0, 0, []), (115, .bipush 6, 2, 0, 6, []), (117, .bipush 32, 2, 0, 32, []), (119, .castore, 1, 0, 0, []), (120, .dup, 1, 0, 0, []), (121, .bipush 7, 2, 0, 7, []), (123, .bipush 32, 2, 0, 32, []), (125, .castore, 1, 0, 0, []), (126, .dup, 1, 0, 0, []), (127, .bipush 8, 2, 0, 8, [])]
def xm_232_4 : List xEn := [(129, .bipush 114, 2, 0, 114, []), (131, .castore, 1, 0, 0, []), (132, .dup, 1, 0, 0, []), (133, .bipush 9, 2, 0, 9, []), (135, .bipush 111, 2, 0, 111, []), (137, .castore, 1, 0, 0, []), (138, .dup, 1, 0, 0, []), (139, .bipush 10, 2, 0, 10, []), (141, .bipush 119, 2, 0, 119, []), (143, .castore, 1, 0, 0, []), (144, .dup, 1, 0, 0, []), (145, .bipush 11, 2, 0, 11, []), (147, .bipush 101, 2, 0, 101, []), (149, .castore, 1, 0, 0, []), (150, .dup, 1, 0, 0, []), (151, .bipush 12, 2, 0, 12, []), (153, .bipush 100, 2, 0, 100, []), (155, .castore, 1, 0, 0, []), (156, .dup, 1, 0, 0, []), (157, .bipush 13, 2, 0, 13, []), (159, .bipush 32, 2, 0, 32, [])]
def xm_232_5 : List xEn := [(161, .castore, 1, 0, 0, []), (162, .dup, 1, 0, 0, []), (163, .bipush 14, 2, 0, 14, []), (165, .bipush 32, 2, 0, 32, []), (167, .castore, 1, 0, 0, []), (168, .dup, 1, 0, 0, []), (169, .bipush 15, 2, 0, 15, []), (171, .bipush 32, 2, 0, 32, []), (173, .castore, 1, 0, 0, []), (174, .dup, 1, 0, 0, []), (175, .bipush 16, 2, 0, 16, []), (177, .bipush 114, 2, 0, 114, []), (179, .castore, 1, 0, 0, []), (180, .dup, 1, 0, 0, []), (181, .bipush 17, 2, 0, 17, []), (183, .bipush 105, 2, 0, 105, []), (185, .castore, 1, 0, 0, []), (186, .dup, 1, 0, 0, []), (187, .bipush 18, 2, 0, 18, []), (189, .bipush 115, 2, 0, 115, []), (191, .castore, 1, 0, 0, [])]
def xm_232_6 : List xEn := [(192, .dup, 1, 0, 0, []), (193, .bipush 19, 2, 0, 19, []), (195, .bipush 105, 2, 0, 105, []), (197, .castore, 1, 0, 0, []), (198, .dup, 1, 0, 0, []), (199, .bipush 20, 2, 0, 20, []), (201, .bipush 110, 2, 0, 110, []), (203, .castore, 1, 0, 0, []), (204, .dup, 1, 0, 0, []), (205, .bipush 21, 2, 0, 21, []), (207, .bipush 103, 2, 0, 103, []), (209, .castore, 1, 0, 0, []), (210, .dup, 1, 0, 0, []), (211, .bipush 22, 2, 0, 22, []), (213, .bipush 32, 2, 0, 32, []), (215, .castore, 1, 0, 0, []), (216, .dup, 1, 0, 0, []), (217, .bipush 23, 2, 0, 23, []), (219, .bipush 32, 2, 0, 32, []), (221, .castore, 1, 0, 0, []), (222, .dup, 1, 0, 0, []), (223, .bipush 24, 2, 0, 24, [])]
def xm_232_7 : List xEn := [(225, .bipush 102, 2, 0, 102, []), (227, .castore, 1, 0, 0, []), (228, .dup, 1, 0, 0, []), (229, .bipush 25, 2, 0, 25, []), (231, .bipush 97, 2, 0, 97, []), (233, .castore, 1, 0, 0, []), (234, .dup, 1, 0, 0, []), (235, .bipush 26, 2, 0, 26, []), (237, .bipush 108, 2, 0, 108, []), (239, .castore, 1, 0, 0, []), (240, .dup, 1, 0, 0, []), (241, .bipush 27, 2, 0, 27, []), (243, .bipush 108, 2, 0, 108, []), (245, .castore, 1, 0, 0, []), (246, .dup, 1, 0, 0, []), (247, .bipush 28, 2, 0, 28, []), (249, .bipush 105, 2, 0, 105, []), (251, .castore, 1, 0, 0, []), (252, .dup, 1, 0, 0, []), (253, .bipush 29, 2, 0, 29, []), (255, .bipush 110, 2, 0, 110, [])]
def xm_232_8 : List xEn := [(257, .castore, 1, 0, 0, []), (258, .dup, 1, 0, 0, []), (259, .bipush 30, 2, 0, 30, []), (261, .bipush 103, 2, 0, 103, []), (263, .castore, 1, 0, 0, []), (264, .dup, 1, 0, 0, []), (265, .bipush 31, 2, 0, 31, []), (267, .bipush 32, 2, 0, 32, []), (269, .castore, 1, 0, 0, []), (270, .dup, 1, 0, 0, []), (271, .bipush 32, 2, 0, 32, []), (273, .bipush 108, 2, 0, 108, []), (275, .castore, 1, 0, 0, []), (276, .dup, 1, 0, 0, []), (277, .bipush 33, 2, 0, 33, []), (279, .bipush 97, 2, 0, 97, []), (281, .castore, 1, 0, 0, []), (282, .dup, 1, 0, 0, []), (283, .bipush 34, 2, 0, 34, []), (285, .bipush 115, 2, 0, 115, []), (287, .castore, 1, 0, 0, [])]
def xm_232_9 : List xEn := [(288, .dup, 1, 0, 0, []), (289, .bipush 35, 2, 0, 35, []), (291, .bipush 116, 2, 0, 116, []), (293, .castore, 1, 0, 0, []), (294, .dup, 1, 0, 0, []), (295, .bipush 36, 2, 0, 36, []), (297, .bipush 32, 2, 0, 32, []), (299, .castore, 1, 0, 0, []), (300, .dup, 1, 0, 0, []), (301, .bipush 37, 2, 0, 37, []), (303, .bipush 32, 2, 0, 32, []), (305, .castore, 1, 0, 0, []), (306, .dup, 1, 0, 0, []), (307, .bipush 38, 2, 0, 38, []), (309, .bipush 32, 2, 0, 32, []), (311, .castore, 1, 0, 0, []), (312, .dup, 1, 0, 0, []), (313, .bipush 39, 2, 0, 39, []), (315, .bipush 32, 2, 0, 32, []), (317, .castore, 1, 0, 0, []), (318, .dup, 1, 0, 0, []), (319, .bipush 40, 2, 0, 40, [])]
def xm_232_10 : List xEn := [(321, .bipush 115, 2, 0, 115, []), (323, .castore, 1, 0, 0, []), (324, .dup, 1, 0, 0, []), (325, .bipush 41, 2, 0, 41, []), (327, .bipush 104, 2, 0, 104, []), (329, .castore, 1, 0, 0, []), (330, .dup, 1, 0, 0, []), (331, .bipush 42, 2, 0, 42, []), (333, .bipush 105, 2, 0, 105, []), (335, .castore, 1, 0, 0, []), (336, .dup, 1, 0, 0, []), (337, .bipush 43, 2, 0, 43, []), (339, .bipush 101, 2, 0, 101, []), (341, .castore, 1, 0, 0, []), (342, .dup, 1, 0, 0, []), (343, .bipush 44, 2, 0, 44, []), (345, .bipush 108, 2, 0, 108, []), (347, .castore, 1, 0, 0, []), (348, .dup, 1, 0, 0, []), (349, .bipush 45, 2, 0, 45, []), (351, .bipush 100, 2, 0, 100, [])]
def xm_232_11 : List xEn := [(353, .castore, 1, 0, 0, []), (354, .dup, 1, 0, 0, []), (355, .bipush 46, 2, 0, 46, []), (357, .bipush 101, 2, 0, 101, []), (359, .castore, 1, 0, 0, []), (360, .dup, 1, 0, 0, []), (361, .bipush 47, 2, 0, 47, []), (363, .bipush 100, 2, 0, 100, []), (365, .castore, 1, 0, 0, []), (366, .dup, 1, 0, 0, []), (367, .bipush 48, 2, 0, 48, []), (369, .bipush 99, 2, 0, 99, []), (371, .castore, 1, 0, 0, []), (372, .dup, 1, 0, 0, []), (373, .bipush 49, 2, 0, 49, []), (375, .bipush 104, 2, 0, 104, []), (377, .castore, 1, 0, 0, []), (378, .dup, 1, 0, 0, []), (379, .bipush 50, 2, 0, 50, []), (381, .bipush 105, 2, 0, 105, []), (383, .castore, 1, 0, 0, [])]
def xm_232_12 : List xEn := [(384, .dup, 1, 0, 0, []), (385, .bipush 51, 2, 0, 51, []), (387, .bipush 108, 2, 0, 108, []), (389, .castore, 1, 0, 0, []), (390, .dup, 1, 0, 0, []), (391, .bipush 52, 2, 0, 52, []), (393, .bipush 100, 2, 0, 100, []), (395, .castore, 1, 0, 0, []), (396, .dup, 1, 0, 0, []), (397, .bipush 53, 2, 0, 53, []), (399, .bipush 32, 2, 0, 32, []), (401, .castore, 1, 0, 0, []), (402, .dup, 1, 0, 0, []), (403, .bipush 54, 2, 0, 54, []), (405, .bipush 32, 2, 0, 32, []), (407, .castore, 1, 0, 0, []), (408, .dup, 1, 0, 0, []), (409, .bipush 55, 2, 0, 55, []), (411, .bipush 32, 2, 0, 32, []), (413, .castore, 1, 0, 0, []), (414, .putfield 37, 3, 0, 0, [])]
def xm_232_13 : List xEn := [(417, .aload_n 0, 1, 0, 0, []), (418, .bipush 24, 2, 0, 24, []), (420, .newarray .char, 2, 0, 0, []), (422, .dup, 1, 0, 0, []), (423, .iconst 0, 1, 0, 0, []), (424, .bipush 108, 2, 0, 108, []), (426, .castore, 1, 0, 0, []), (427, .dup, 1, 0, 0, []), (428, .iconst 1, 1, 0, 1, []), (429, .bipush 111, 2, 0, 111, []), (431, .castore, 1, 0, 0, []), (432, .dup, 1, 0, 0, []), (433, .iconst 2, 1, 0, 2, []), (434, .bipush 118, 2, 0, 118, []), (436, .castore, 1, 0, 0, []), (437, .dup, 1, 0, 0, []), (438, .iconst 3, 1, 0, 3, []), (439, .bipush 101, 2, 0, 101, []), (441, .castore, 1, 0, 0, []), (442, .dup, 1, 0, 0, []), (443, .iconst 4, 1, 0, 4, []), (444, .bipush 32, 2, 0, 32, []), (446, .castore, 1, 0, 0, []), (447, .dup, 1, 0, 0, [])]
def xm_232_14 : List xEn := [(448, .iconst 5, 1, 0, 5, []), (449, .bipush 32, 2, 0, 32, []), (451, .castore, 1, 0, 0, []), (452, .dup, 1, 0, 0, []), (453, .bipush 6, 2, 0, 6, []), (455, .bipush 32, 2, 0, 32, []), (457, .castore, 1, 0, 0, []), (458, .dup, 1, 0, 0, []), (459, .bipush 7, 2, 0, 7, []), (461, .bipush 32, 2, 0, 32, []), (463, .castore, 1, 0, 0, []), (464, .dup, 1, 0, 0, []), (465, .bipush 8, 2, 0, 8, []), (467, .bipush 115, 2, 0, 115, []), (469, .castore, 1, 0, 0, []), (470, .dup, 1, 0, 0, []), (471, .bipush 9, 2, 0, 9, []), (473, .bipush 101, 2, 0, 101, []), (475, .castore, 1, 0, 0, []), (476, .dup, 1, 0, 0, []), (477, .bipush 10, 2, 0, 10, []), (479, .bipush 99, 2, 0, 99, [])]
def xm_232_15 : List xEn := [(481, .castore, 1, 0, 0, []), (482, .dup, 1, 0, 0, []), (483, .bipush 11, 2, 0, 11, []), (485, .bipush 111, 2, 0, 111, []), (487, .castore, 1, 0, 0, []), (488, .dup, 1, 0, 0, []), (489, .bipush 12, 2, 0, 12, []), (491, .bipush 110, 2, 0, 110, []), (493, .castore, 1, 0, 0, []), (494, .dup, 1, 0, 0, []), (495, .bipush 13, 2, 0, 13, []), (497, .bipush 100, 2, 0, 100, []), (499, .castore, 1, 0, 0, []), (500, .dup, 1, 0, 0, []), (501, .bipush 14, 2, 0, 14, []), (503, .bipush 115, 2, 0, 115, []), (505, .castore, 1, 0, 0, []), (506, .dup, 1, 0, 0, []), (507, .bipush 15, 2, 0, 15, []), (509, .bipush 32, 2, 0, 32, []), (511, .castore, 1, 0, 0, [])]
def xm_232_16 : List xEn := [(512, .dup, 1, 0, 0, []), (513, .bipush 16, 2, 0, 16, []), (515, .bipush 97, 2, 0, 97, []), (517, .castore, 1, 0, 0, []), (518, .dup, 1, 0, 0, []), (519, .bipush 17, 2, 0, 17, []), (521, .bipush 104, 2, 0, 104, []), (523, .castore, 1, 0, 0, []), (524, .dup, 1, 0, 0, []), (525, .bipush 18, 2, 0, 18, []), (527, .bipush 101, 2, 0, 101, []), (529, .castore, 1, 0, 0, []), (530, .dup, 1, 0, 0, []), (531, .bipush 19, 2, 0, 19, []), (533, .bipush 97, 2, 0, 97, []), (535, .castore, 1, 0, 0, []), (536, .dup, 1, 0, 0, []), (537, .bipush 20, 2, 0, 20, []), (539, .bipush 100, 2, 0, 100, []), (541, .castore, 1, 0, 0, []), (542, .dup, 1, 0, 0, []), (543, .bipush 21, 2, 0, 21, [])]
def xm_232_17 : List xEn := [(545, .bipush 32, 2, 0, 32, []), (547, .castore, 1, 0, 0, []), (548, .dup, 1, 0, 0, []), (549, .bipush 22, 2, 0, 22, []), (551, .bipush 32, 2, 0, 32, []), (553, .castore, 1, 0, 0, []), (554, .dup, 1, 0, 0, []), (555, .bipush 23, 2, 0, 23, []), (557, .bipush 32, 2, 0, 32, []), (559, .castore, 1, 0, 0, []), (560, .putfield 41, 3, 0, 0, []), (563, .aload_n 0, 1, 0, 0, []), (564, .bipush 48, 2, 0, 48, []), (566, .newarray .char, 2, 0, 0, []), (568, .dup, 1, 0, 0, []), (569, .iconst 0, 1, 0, 0, []), (570, .bipush 116, 2, 0, 116, []), (572, .castore, 1, 0, 0, []), (573, .dup, 1, 0, 0, []), (574, .iconst 1, 1, 0, 1, []), (575, .bipush 105, 2, 0, 105, [])]
def xm_232_18 : List xEn := [(577, .castore, 1, 0, 0, []), (578, .dup, 1, 0, 0, []), (579, .iconst 2, 1, 0, 2, []), (580, .bipush 114, 2, 0, 114, []), (582, .castore, 1, 0, 0, []), (583, .dup, 1, 0, 0, []), (584, .iconst 3, 1, 0, 3, []), (585, .bipush 101, 2, 0, 101, []), (587, .castore, 1, 0, 0, []), (588, .dup, 1, 0, 0, []), (589, .iconst 4, 1, 0, 4, []), (590, .bipush 115, 2, 0, 115, []), (592, .castore, 1, 0, 0, []), (593, .dup, 1, 0, 0, []), (594, .iconst 5, 1, 0, 5, []), (595, .bipush 32, 2, 0, 32, []), (597, .castore, 1, 0, 0, []), (598, .dup, 1, 0, 0, []), (599, .bipush 6, 2, 0, 6, []), (601, .bipush 32, 2, 0, 32, []), (603, .castore, 1, 0, 0, []), (604, .dup, 1, 0, 0, []), (605, .bipush 7, 2, 0, 7, []), (607, .bipush 32, 2, 0, 32, [])]
def xm_232_19 : List xEn := [(609, .castore, 1, 0, 0, []), (610, .dup, 1, 0, 0, []), (611, .bipush 8, 2, 0, 8, []), (613, .bipush 115, 2, 0, 115, []), (615, .castore, 1, 0, 0, []), (616, .dup, 1, 0, 0, []), (617, .bipush 9, 2, 0, 9, []), (619, .bipush 105, 2, 0, 105, []), (621, .castore, 1, 0, 0, []), (622, .dup, 1, 0, 0, []), (623, .bipush 10, 2, 0, 10, []), (625, .bipush 108, 2, 0, 108, []), (627, .castore, 1, 0, 0, []), (628, .dup, 1, 0, 0, []), (629, .bipush 11, 2, 0, 11, []), (631, .bipush 101, 2, 0, 101, []), (633, .castore, 1, 0, 0, []), (634, .dup, 1, 0, 0, []), (635, .bipush 12, 2, 0, 12, []), (637, .bipush 110, 2, 0, 110, []), (639, .castore, 1, 0, 0, [])]
def xm_232_20 : List xEn := [(640, .dup, 1, 0, 0, []), (641, .bipush 13, 2, 0, 13, []), (643, .bipush 116, 2, 0, 116, []), (645, .castore, 1, 0, 0, []), (646, .dup, 1, 0, 0, []), (647, .bipush 14, 2, 0, 14, []), (649, .bipush 32, 2, 0, 32, []), (651, .castore, 1, 0, 0, []), (652, .dup, 1, 0, 0, []), (653, .bipush 15, 2, 0, 15, []), (655, .bipush 32, 2, 0, 32, []), (657, .castore, 1, 0, 0, []), (658, .dup, 1, 0, 0, []), (659, .bipush 16, 2, 0, 16, []), (661, .bipush 103, 2, 0, 103, []), (663, .castore, 1, 0, 0, []), (664, .dup, 1, 0, 0, []), (665, .bipush 17, 2, 0, 17, []), (667, .bipush 97, 2, 0, 97, []), (669, .castore, 1, 0, 0, []), (670, .dup, 1, 0, 0, []), (671, .bipush 18, 2, 0, 18, [])]
def xm_232_21 : List xEn := [(673, .bipush 105, 2, 0, 105, []), (675, .castore, 1, 0, 0, []), (676, .dup, 1, 0, 0, []), (677, .bipush 19, 2, 0, 19, []), (679, .bipush 110, 2, 0, 110, []), (681, .castore, 1, 0, 0, []), (682, .dup, 1, 0, 0, []), (683, .bipush 20, 2, 0, 20, []), (685, .bipush 32, 2, 0, 32, []), (687, .castore, 1, 0, 0, []), (688, .dup, 1, 0, 0, []), (689, .bipush 21, 2, 0, 21, []), (691, .bipush 32, 2, 0, 32, []), (693, .castore, 1, 0, 0, []), (694, .dup, 1, 0, 0, []), (695, .bipush 22, 2, 0, 22, []), (697, .bipush 32, 2, 0, 32, []), (699, .castore, 1, 0, 0, []), (700, .dup, 1, 0, 0, []), (701, .bipush 23, 2, 0, 23, []), (703, .bipush 32, 2, 0, 32, [])]
def xm_232_22 : List xEn := [(705, .castore, 1, 0, 0, []), (706, .dup, 1, 0, 0, []), (707, .bipush 24, 2, 0, 24, []), (709, .bipush 108, 2, 0, 108, []), (711, .castore, 1, 0, 0, []), (712, .dup, 1, 0, 0, []), (713, .bipush 25, 2, 0, 25, []), (715, .bipush 111, 2, 0, 111, []), (717, .castore, 1, 0, 0, []), (718, .dup, 1, 0, 0, []), (719, .bipush 26, 2, 0, 26, []), (721, .bipush 115, 2, 0, 115, []), (723, .castore, 1, 0, 0, []), (724, .dup, 1, 0, 0, []), (725, .bipush 27, 2, 0, 27, []), (727, .bipush 115, 2, 0, 115, []), (729, .castore, 1, 0, 0, []), (730, .dup, 1, 0, 0, []), (731, .bipush 28, 2, 0, 28, []), (733, .bipush 32, 2, 0, 32, []), (735, .castore, 1, 0, 0, [])]
def xm_232_23 : List xEn := [(736, .dup, 1, 0, 0, []), (737, .bipush 29, 2, 0, 29, []), (739, .bipush 32, 2, 0, 32, []), (741, .castore, 1, 0, 0, []), (742, .dup, 1, 0, 0, []), (743, .bipush 30, 2, 0, 30, []), (745, .bipush 32, 2, 0, 32, []), (747, .castore, 1, 0, 0, []), (748, .dup, 1, 0, 0, []), (749, .bipush 31, 2, 0, 31, []), (751, .bipush 32, 2, 0, 32, []), (753, .castore, 1, 0, 0, []), (754, .dup, 1, 0, 0, []), (755, .bipush 32, 2, 0, 32, []), (757, .bipush 116, 2, 0, 116, []), (759, .castore, 1, 0, 0, []), (760, .dup, 1, 0, 0, []), (761, .bipush 33, 2, 0, 33, []), (763, .bipush 114, 2, 0, 114, []), (765, .castore, 1, 0, 0, []), (766, .dup, 1, 0, 0, []), (767, .bipush 34, 2, 0, 34, [])]
def xm_232_24 : List xEn := [(769, .bipush 97, 2, 0, 97, []), (771, .castore, 1, 0, 0, []), (772, .dup, 1, 0, 0, []), (773, .bipush 35, 2, 0, 35, []), (775, .bipush 105, 2, 0, 105, []), (777, .castore, 1, 0, 0, []), (778, .dup, 1, 0, 0, []), (779, .bipush 36, 2, 0, 36, []), (781, .bipush 110, 2, 0, 110, []), (783, .castore, 1, 0, 0, []), (784, .dup, 1, 0, 0, []), (785, .bipush 37, 2, 0, 37, []), (787, .bipush 32, 2, 0, 32, []), (789, .castore, 1, 0, 0, []), (790, .dup, 1, 0, 0, []), (791, .bipush 38, 2, 0, 38, []), (793, .bipush 32, 2, 0, 32, []), (795, .castore, 1, 0, 0, []), (796, .dup, 1, 0, 0, []), (797, .bipush 39, 2, 0, 39, []), (799, .bipush 32, 2, 0, 32, [])]
def xm_232_25 : List xEn := [(801, .castore, 1, 0, 0, []), (802, .dup, 1, 0, 0, []), (803, .bipush 40, 2, 0, 40, []), (805, .bipush 99, 2, 0, 99, []), (807, .castore, 1, 0, 0, []), (808, .dup, 1, 0, 0, []), (809, .bipush 41, 2, 0, 41, []), (811, .bipush 111, 2, 0, 111, []), (813, .castore, 1, 0, 0, []), (814, .dup, 1, 0, 0, []), (815, .bipush 42, 2, 0, 42, []), (817, .bipush 110, 2, 0, 110, []), (819, .castore, 1, 0, 0, []), (820, .dup, 1, 0, 0, []), (821, .bipush 43, 2, 0, 43, []), (823, .bipush 116, 2, 0, 116, []), (825, .castore, 1, 0, 0, []), (826, .dup, 1, 0, 0, []), (827, .bipush 44, 2, 0, 44, []), (829, .bipush 114, 2, 0, 114, []), (831, .castore, 1, 0, 0, [])]
def xm_232_26 : List xEn := [(832, .dup, 1, 0, 0, []), (833, .bipush 45, 2, 0, 45, []), (835, .bipush 97, 2, 0, 97, []), (837, .castore, 1, 0, 0, []), (838, .dup, 1, 0, 0, []), (839, .bipush 46, 2, 0, 46, []), (841, .bipush 99, 2, 0, 99, []), (843, .castore, 1, 0, 0, []), (844, .dup, 1, 0, 0, []), (845, .bipush 47, 2, 0, 47, []), (847, .bipush 116, 2, 0, 116, []), (849, .castore, 1, 0, 0, []), (850, .putfield 44, 3, 0, 0, []), (853, .aload_n 0, 1, 0, 0, []), (854, .iconst 4, 1, 0, 4, []), (855, .newarray .int, 2, 0, 0, []), (857, .putfield 47, 3, 0, 0, []), (860, .aload_n 0, 1, 0, 0, []), (861, .iconst 4, 1, 0, 4, []), (862, .newarray .int, 2, 0, 0, [])]
def xm_232_27 : List xEn := [(864, .putfield 50, 3, 0, 0, []), (867, .aload_n 0, 1, 0, 0, []), (868, .sipush 160, 3, 0, 160, []), (871, .newarray .int, 2, 0, 0, []), (873, .putfield 53, 3, 0, 0, []), (876, .aload_n 0, 1, 0, 0, []), (877, .bipush 40, 2, 0, 40, []), (879, .newarray .int, 2, 0, 0, []), (881, .putfield 56, 3, 0, 0, []), (884, .aload_n 0, 1, 0, 0, []), (885, .getfield 9, 3, 0, 0, []), (888, .iconst 4, 1, 0, 4, []), (889, .iconst 1, 1, 0, 1, []), (890, .iastore, 1, 0, 0, []), (891, .aload_n 0, 1, 0, 0, []), (892, .getfield 9, 3, 0, 0, []), (895, .iconst 5, 1, 0, 5, [])]
def xm_232_28 : List xEn := [(896, .iconst 1, 1, 0, 1, []), (897, .iastore, 1, 0, 0, []), (898, .aload_n 0, 1, 0, 0, []), (899, .getfield 9, 3, 0, 0, []), (902, .bipush 6, 2, 0, 6, []), (904, .iconst 1, 1, 0, 1, []), (905, .iastore, 1, 0, 0, []), (906, .aload_n 0, 1, 0, 0, []), (907, .getfield 9, 3, 0, 0, []), (910, .bipush 7, 2, 0, 7, []), (912, .bipush 20, 2, 0, 20, []), (914, .iastore, 1, 0, 0, []), (915, .aload_n 0, 1, 0, 0, []), (916, .getfield 9, 3, 0, 0, []), (919, .bipush 8, 2, 0, 8, []), (921, .bipush 30, 2, 0, 30, []), (923, .iastore, 1, 0, 0, []), (924, .aload_n 0, 1, 0, 0, []), (925, .getfield 9, 3, 0, 0, [])]
def xm_232_29 : List xEn := [(928, .bipush 9, 2, 0, 9, []), (930, .bipush 60, 2, 0, 60, []), (932, .iastore, 1, 0, 0, []), (933, .iconst 0, 1, 0, 0, []), (934, .istore_n 1, 1, 0, 0, []), (935, .iload_n 1, 1, 0, 0, []), (936, .bipush 10, 2, 0, 10, []), (938, .if_icmp .ge 19, 3, 957, 0, []), (941, .aload_n 0, 1, 0, 0, []), (942, .getfield 9, 3, 0, 0, []), (945, .bipush 73, 2, 0, 73, []), (947, .iload_n 1, 1, 0, 0, []), (948, .iadd, 1, 0, 0, []), (949, .iconst (-1), 1, 0, (-1), []), (950, .iastore, 1, 0, 0, []), (951, .iinc 1 1, 3, 0, 1, []), (954, .goto (-19), 3, 935, 0, []), (957, .return_, 1, 0, 0, [])]
/-- X6_init -/
def xm_232 : xT := (6, [xm_232_0, xm_232_1, xm_232_2, xm_232_3, xm_232_4, xm_232_5, xm_232_6, xm_232_7, xm_232_8, xm_232_9, xm_232_10, xm_232_11, xm_232_12, xm_232_13, xm_232_14, xm_232_15, xm_232_16, xm_232_17, xm_232_18, xm_232_19, xm_232_20, xm_232_21, xm_232_22, xm_232_23, xm_232_24, xm_232_25, xm_232_26, xm_232_27, xm_232_28, xm_232_29], [], none, true, 2)
def xm_233_0 : List xEn := [(0, .new 7, 3, 0, 0, []), (3, .dup, 1, 0, 0, []), (4, .invokespecial 9, 3, 0, 0, []), (7, .astore_n 1, 1, 0, 0, []), (8, .new 10, 3, 0, 0, []), (11, .dup, 1, 0, 0, []), (12, .invokespecial 12, 3, 0, 0, []), (15, .astore_n 2, 1, 0, 0, []), (16, .iconst 0, 1, 0, 0, []), (17, .istore_n 3, 1, 0, 0, []), (18, .iload_n 3, 1, 0, 0, []), (19, .aload_n 0, 1, 0, 0, []), (20, .arraylength, 1, 0, 0, []), (21, .bipush 6, 2, 0, 6, []), (23, .isub, 1, 0, 0, []), (24, .if_icmp .gt 1400, 3, 1424, 0, []), (27, .aload_n 0, 1, 0, 0, []), (28, .iload_n 3, 1, 0, 0, []), (29, .iaload, 1, 0, 0, []), (30, .bipush 63, 2, 0, 63, [])]
def xm_233_1 : List xEn := [(32, .iand, 1, 0, 0, []), (33, .tableswitch 1385 0 46 #[203, 226, 259, 302, 345, 378, 411, 434, 447, 460, 483, 506, 529, 562, 575, 588, 621, 644, 657, 670, 703, 726, 739, 752, 765, 808, 851, 885, 898, 921, 934, 957, 990, 1003, 1016, 1049, 1082, 1125, 1168, 1231, 1254, 1277, 1300, 1313, 1326, 1339, 1362], 203, 1418, 0, [(0, 236), (1, 259), (2, 292), (3, 335), (4, 378), (5, 411), (6, 444), (7, 467), (8, 480), (9, 493), (10, 516), (11, 539), (12, 562), (13, 595), (14, 608), (15, 621), (16, 654), (17, 677), (18, 690), (19, 703), (20, 736), (21, 759), (22, 772), (23, 785), (24, 798), (25, 841), (26, 884), (27, 918), (28, 931), (29, 954), (30, 967), (31, 990), (32, 1023), (33, 1036), (34, 1049), (35, 1082), (36, 1115), (37, 1158), (38, 1201), (39, 1264), (40, 1287), (41, 1310), (42, 1333), (43, 1346), (44, 1359), (45, 1372), (46, 1395)])]
def xm_233_7 : List xEn := [(236, .aload_n 1, 1, 0, 0, []), (237, .aload_n 0, 1, 0, 0, []), (238, .iload_n 3, 1, 0, 0, []), (239, .iconst 1, 1, 0, 1, []), (240, .iadd, 1, 0, 0, []), (241, .iaload, 1, 0, 0, []), (242, .invokevirtual 13, 3, 0, 0, []), (245, .aload_n 2, 1, 0, 0, []), (246, .aload_n 0, 1, 0, 0, []), (247, .iload_n 3, 1, 0, 0, []), (248, .iconst 1, 1, 0, 1, []), (249, .iadd, 1, 0, 0, []), (250, .iaload, 1, 0, 0, []), (251, .invokevirtual 17, 3, 0, 0, []), (254, .if_icmp .eq 1164, 3, 1418, 0, [])]
def xm_233_8 : List xEn := [(257, .iconst 0, 1, 0, 0, []), (258, .ireturn, 1, 0, 0, []), (259, .aload_n 1, 1, 0, 0, []), (260, .aload_n 0, 1, 0, 0, []), (261, .iload_n 3, 1, 0, 0, []), (262, .iconst 1, 1, 0, 1, []), (263, .iadd, 1, 0, 0, []), (264, .iaload, 1, 0, 0, []), (265, .aload_n 0, 1, 0, 0, []), (266, .iload_n 3, 1, 0, 0, []), (267, .iconst 2, 1, 0, 2, []), (268, .iadd, 1, 0, 0, []), (269, .iaload, 1, 0, 0, []), (270, .invokevirtual 18, 3, 0, 0, []), (273, .aload_n 2, 1, 0, 0, []), (274, .aload_n 0, 1, 0, 0, []), (275, .iload_n 3, 1, 0, 0, []), (276, .iconst 1, 1, 0, 1, []), (277, .iadd, 1, 0, 0, []), (278, .iaload, 1, 0, 0, []), (279, .aload_n 0, 1, 0, 0, []), (280, .iload_n 3, 1, 0, 0, []), (281, .iconst 2, 1, 0, 2, []), (282, .iadd, 1, 0, 0, []), (283, .iaload, 1, 0, 0, []), (284, .invokevirtual 22, 3, 0, 0, []), (287, .if_icmp .eq 1131, 3, 1418, 0, [])]
def xm_233_9 : List xEn := [(290, .iconst 0, 1, 0, 0, []), (291, .ireturn, 1, 0, 0, []), (292, .aload_n 1, 1, 0, 0, []), (293, .aload_n 0, 1, 0, 0, []), (294, .iload_n 3, 1, 0, 0, []), (295, .iconst 1, 1, 0, 1, []), (296, .iadd, 1, 0, 0, []), (297, .iaload, 1, 0, 0, []), (298, .aload_n 0, 1, 0, 0, []), (299, .iload_n 3, 1, 0, 0, []), (300, .iconst 2, 1, 0, 2, []), (301, .iadd, 1, 0, 0, []), (302, .iaload, 1, 0, 0, []), (303, .aload_n 0, 1, 0, 0, []), (304, .iload_n 3, 1, 0, 0, []), (305, .iconst 3, 1, 0, 3, []), (306, .iadd, 1, 0, 0, []), (307, .iaload, 1, 0, 0, []), (308, .invokevirtual 23, 3, 0, 0, []), (311, .aload_n 2, 1, 0, 0, []), (312, .aload_n 0, 1, 0, 0, []), (313, .iload_n 3, 1, 0, 0, []), (314, .iconst 1, 1, 0, 1, []), (315, .iadd, 1, 0, 0, []), (316, .iaload, 1, 0, 0, []), (317, .aload_n 0, 1, 0, 0, []), (318, .iload_n 3, 1, 0, 0, []), (319, .iconst 2, 1, 0, 2, [])]
def xm_233_10 : List xEn := [(320, .iadd, 1, 0, 0, []), (321, .iaload, 1, 0, 0, []), (322, .aload_n 0, 1, 0, 0, []), (323, .iload_n 3, 1, 0, 0, []), (324, .iconst 3, 1, 0, 3, []), (325, .iadd, 1, 0, 0, []), (326, .iaload, 1, 0, 0, []), (327, .invokevirtual 27, 3, 0, 0, []), (330, .if_icmp .eq 1088, 3, 1418, 0, []), (333, .iconst 0, 1, 0, 0, []), (334, .ireturn, 1, 0, 0, []), (335, .aload_n 1, 1, 0, 0, []), (336, .aload_n 0, 1, 0, 0, []), (337, .iload_n 3, 1, 0, 0, []), (338, .iconst 1, 1, 0, 1, []), (339, .iadd, 1, 0, 0, []), (340, .iaload, 1, 0, 0, []), (341, .aload_n 0, 1, 0, 0, []), (342, .iload_n 3, 1, 0, 0, []), (343, .iconst 2, 1, 0, 2, []), (344, .iadd, 1, 0, 0, []), (345, .iaload, 1, 0, 0, []), (346, .aload_n 0, 1, 0, 0, []), (347, .iload_n 3, 1, 0, 0, []), (348, .iconst 3, 1, 0, 3, []), (349, .iadd, 1, 0, 0, []), (350, .iaload, 1, 0, 0, []), (351, .invokevirtual 28, 3, 0, 0, [])]
def xm_233_11 : List xEn := [(354, .aload_n 2, 1, 0, 0, []), (355, .aload_n 0, 1, 0, 0, []), (356, .iload_n 3, 1, 0, 0, []), (357, .iconst 1, 1, 0, 1, []), (358, .iadd, 1, 0, 0, []), (359, .iaload, 1, 0, 0, []), (360, .aload_n 0, 1, 0, 0, []), (361, .iload_n 3, 1, 0, 0, []), (362, .iconst 2, 1, 0, 2, []), (363, .iadd, 1, 0, 0, []), (364, .iaload, 1, 0, 0, []), (365, .aload_n 0, 1, 0, 0, []), (366, .iload_n 3, 1, 0, 0, []), (367, .iconst 3, 1, 0, 3, []), (368, .iadd, 1, 0, 0, []), (369, .iaload, 1, 0, 0, []), (370, .invokevirtual 31, 3, 0, 0, []), (373, .if_icmp .eq 1045, 3, 1418, 0, []), (376, .iconst 0, 1, 0, 0, []), (377, .ireturn, 1, 0, 0, []), (378, .aload_n 1, 1, 0, 0, []), (379, .aload_n 0, 1, 0, 0, []), (380, .iload_n 3, 1, 0, 0, []), (381, .iconst 1, 1, 0, 1, []), (382, .iadd, 1, 0, 0, []), (383, .iaload, 1, 0, 0, [])]
def xm_233_12 : List xEn := [(384, .aload_n 0, 1, 0, 0, []), (385, .iload_n 3, 1, 0, 0, []), (386, .iconst 2, 1, 0, 2, []), (387, .iadd, 1, 0, 0, []), (388, .iaload, 1, 0, 0, []), (389, .invokevirtual 32, 3, 0, 0, []), (392, .aload_n 2, 1, 0, 0, []), (393, .aload_n 0, 1, 0, 0, []), (394, .iload_n 3, 1, 0, 0, []), (395, .iconst 1, 1, 0, 1, []), (396, .iadd, 1, 0, 0, []), (397, .iaload, 1, 0, 0, []), (398, .aload_n 0, 1, 0, 0, []), (399, .iload_n 3, 1, 0, 0, []), (400, .iconst 2, 1, 0, 2, []), (401, .iadd, 1, 0, 0, []), (402, .iaload, 1, 0, 0, []), (403, .invokevirtual 35, 3, 0, 0, []), (406, .if_icmp .eq 1012, 3, 1418, 0, []), (409, .iconst 0, 1, 0, 0, []), (410, .ireturn, 1, 0, 0, []), (411, .aload_n 1, 1, 0, 0, []), (412, .aload_n 0, 1, 0, 0, []), (413, .iload_n 3, 1, 0, 0, []), (414, .iconst 1, 1, 0, 1, []), (415, .iadd, 1, 0, 0, [])]
def xm_233_13 : List xEn := [(416, .iaload, 1, 0, 0, []), (417, .aload_n 0, 1, 0, 0, []), (418, .iload_n 3, 1, 0, 0, []), (419, .iconst 2, 1, 0, 2, []), (420, .iadd, 1, 0, 0, []), (421, .iaload, 1, 0, 0, []), (422, .invokevirtual 36, 3, 0, 0, []), (425, .aload_n 2, 1, 0, 0, []), (426, .aload_n 0, 1, 0, 0, []), (427, .iload_n 3, 1, 0, 0, []), (428, .iconst 1, 1, 0, 1, []), (429, .iadd, 1, 0, 0, []), (430, .iaload, 1, 0, 0, []), (431, .aload_n 0, 1, 0, 0, []), (432, .iload_n 3, 1, 0, 0, []), (433, .iconst 2, 1, 0, 2, []), (434, .iadd, 1, 0, 0, []), (435, .iaload, 1, 0, 0, []), (436, .invokevirtual 39, 3, 0, 0, []), (439, .if_icmp .eq 979, 3, 1418, 0, []), (442, .iconst 0, 1, 0, 0, []), (443, .ireturn, 1, 0, 0, []), (444, .aload_n 1, 1, 0, 0, []), (445, .aload_n 0, 1, 0, 0, []), (446, .iload_n 3, 1, 0, 0, []), (447, .iconst 1, 1, 0, 1, [])]
def xm_233_14 : List xEn := [(448, .iadd, 1, 0, 0, []), (449, .iaload, 1, 0, 0, []), (450, .invokevirtual 40, 3, 0, 0, []), (453, .aload_n 2, 1, 0, 0, []), (454, .aload_n 0, 1, 0, 0, []), (455, .iload_n 3, 1, 0, 0, []), (456, .iconst 1, 1, 0, 1, []), (457, .iadd, 1, 0, 0, []), (458, .iaload, 1, 0, 0, []), (459, .invokevirtual 43, 3, 0, 0, []), (462, .if_icmp .eq 956, 3, 1418, 0, []), (465, .iconst 0, 1, 0, 0, []), (466, .ireturn, 1, 0, 0, []), (467, .aload_n 1, 1, 0, 0, []), (468, .invokevirtual 44, 3, 0, 0, []), (471, .aload_n 2, 1, 0, 0, []), (472, .invokevirtual 48, 3, 0, 0, []), (475, .if_icmp .eq 943, 3, 1418, 0, []), (478, .iconst 0, 1, 0, 0, []), (479, .ireturn, 1, 0, 0, [])]
def xm_233_15 : List xEn := [(480, .aload_n 1, 1, 0, 0, []), (481, .invokevirtual 49, 3, 0, 0, []), (484, .aload_n 2, 1, 0, 0, []), (485, .invokevirtual 52, 3, 0, 0, []), (488, .if_icmp .eq 930, 3, 1418, 0, []), (491, .iconst 0, 1, 0, 0, []), (492, .ireturn, 1, 0, 0, []), (493, .aload_n 1, 1, 0, 0, []), (494, .aload_n 0, 1, 0, 0, []), (495, .iload_n 3, 1, 0, 0, []), (496, .iconst 1, 1, 0, 1, []), (497, .iadd, 1, 0, 0, []), (498, .iaload, 1, 0, 0, []), (499, .invokevirtual 53, 3, 0, 0, []), (502, .aload_n 2, 1, 0, 0, []), (503, .aload_n 0, 1, 0, 0, []), (504, .iload_n 3, 1, 0, 0, []), (505, .iconst 1, 1, 0, 1, []), (506, .iadd, 1, 0, 0, []), (507, .iaload, 1, 0, 0, []), (508, .invokevirtual 56, 3, 0, 0, []), (511, .if_icmp .eq 907, 3, 1418, 0, [])]
def xm_233_16 : List xEn := [(514, .iconst 0, 1, 0, 0, []), (515, .ireturn, 1, 0, 0, []), (516, .aload_n 1, 1, 0, 0, []), (517, .aload_n 0, 1, 0, 0, []), (518, .iload_n 3, 1, 0, 0, []), (519, .iconst 1, 1, 0, 1, []), (520, .iadd, 1, 0, 0, []), (521, .iaload, 1, 0, 0, []), (522, .invokevirtual 57, 3, 0, 0, []), (525, .aload_n 2, 1, 0, 0, []), (526, .aload_n 0, 1, 0, 0, []), (527, .iload_n 3, 1, 0, 0, []), (528, .iconst 1, 1, 0, 1, []), (529, .iadd, 1, 0, 0, []), (530, .iaload, 1, 0, 0, []), (531, .invokevirtual 60, 3, 0, 0, []), (534, .if_icmp .eq 884, 3, 1418, 0, []), (537, .iconst 0, 1, 0, 0, []), (538, .ireturn, 1, 0, 0, []), (539, .aload_n 1, 1, 0, 0, []), (540, .aload_n 0, 1, 0, 0, []), (541, .iload_n 3, 1, 0, 0, []), (542, .iconst 1, 1, 0, 1, []), (543, .iadd, 1, 0, 0, [])]
def xm_233_17 : List xEn := [(544, .iaload, 1, 0, 0, []), (545, .invokevirtual 61, 3, 0, 0, []), (548, .aload_n 2, 1, 0, 0, []), (549, .aload_n 0, 1, 0, 0, []), (550, .iload_n 3, 1, 0, 0, []), (551, .iconst 1, 1, 0, 1, []), (552, .iadd, 1, 0, 0, []), (553, .iaload, 1, 0, 0, []), (554, .invokevirtual 64, 3, 0, 0, []), (557, .if_icmp .eq 861, 3, 1418, 0, []), (560, .iconst 0, 1, 0, 0, []), (561, .ireturn, 1, 0, 0, []), (562, .aload_n 1, 1, 0, 0, []), (563, .aload_n 0, 1, 0, 0, []), (564, .iload_n 3, 1, 0, 0, []), (565, .iconst 1, 1, 0, 1, []), (566, .iadd, 1, 0, 0, []), (567, .iaload, 1, 0, 0, []), (568, .aload_n 0, 1, 0, 0, []), (569, .iload_n 3, 1, 0, 0, []), (570, .iconst 2, 1, 0, 2, []), (571, .iadd, 1, 0, 0, []), (572, .iaload, 1, 0, 0, []), (573, .invokevirtual 65, 3, 0, 0, [])]
def xm_233_18 : List xEn := [(576, .aload_n 2, 1, 0, 0, []), (577, .aload_n 0, 1, 0, 0, []), (578, .iload_n 3, 1, 0, 0, []), (579, .iconst 1, 1, 0, 1, []), (580, .iadd, 1, 0, 0, []), (581, .iaload, 1, 0, 0, []), (582, .aload_n 0, 1, 0, 0, []), (583, .iload_n 3, 1, 0, 0, []), (584, .iconst 2, 1, 0, 2, []), (585, .iadd, 1, 0, 0, []), (586, .iaload, 1, 0, 0, []), (587, .invokevirtual 68, 3, 0, 0, []), (590, .if_icmp .eq 828, 3, 1418, 0, []), (593, .iconst 0, 1, 0, 0, []), (594, .ireturn, 1, 0, 0, []), (595, .aload_n 1, 1, 0, 0, []), (596, .invokevirtual 69, 3, 0, 0, []), (599, .aload_n 2, 1, 0, 0, []), (600, .invokevirtual 72, 3, 0, 0, []), (603, .if_icmp .eq 815, 3, 1418, 0, []), (606, .iconst 0, 1, 0, 0, []), (607, .ireturn, 1, 0, 0, [])]
def xm_233_19 : List xEn := [(608, .aload_n 1, 1, 0, 0, []), (609, .invokevirtual 73, 3, 0, 0, []), (612, .aload_n 2, 1, 0, 0, []), (613, .invokevirtual 76, 3, 0, 0, []), (616, .if_icmp .eq 802, 3, 1418, 0, []), (619, .iconst 0, 1, 0, 0, []), (620, .ireturn, 1, 0, 0, []), (621, .aload_n 1, 1, 0, 0, []), (622, .aload_n 0, 1, 0, 0, []), (623, .iload_n 3, 1, 0, 0, []), (624, .iconst 1, 1, 0, 1, []), (625, .iadd, 1, 0, 0, []), (626, .iaload, 1, 0, 0, []), (627, .aload_n 0, 1, 0, 0, []), (628, .iload_n 3, 1, 0, 0, []), (629, .iconst 2, 1, 0, 2, []), (630, .iadd, 1, 0, 0, []), (631, .iaload, 1, 0, 0, []), (632, .invokevirtual 77, 3, 0, 0, []), (635, .aload_n 2, 1, 0, 0, []), (636, .aload_n 0, 1, 0, 0, []), (637, .iload_n 3, 1, 0, 0, []), (638, .iconst 1, 1, 0, 1, []), (639, .iadd, 1, 0, 0, [])]
def xm_233_20 : List xEn := [(640, .iaload, 1, 0, 0, []), (641, .aload_n 0, 1, 0, 0, []), (642, .iload_n 3, 1, 0, 0, []), (643, .iconst 2, 1, 0, 2, []), (644, .iadd, 1, 0, 0, []), (645, .iaload, 1, 0, 0, []), (646, .invokevirtual 80, 3, 0, 0, []), (649, .if_icmp .eq 769, 3, 1418, 0, []), (652, .iconst 0, 1, 0, 0, []), (653, .ireturn, 1, 0, 0, []), (654, .aload_n 1, 1, 0, 0, []), (655, .aload_n 0, 1, 0, 0, []), (656, .iload_n 3, 1, 0, 0, []), (657, .iconst 1, 1, 0, 1, []), (658, .iadd, 1, 0, 0, []), (659, .iaload, 1, 0, 0, []), (660, .invokevirtual 81, 3, 0, 0, []), (663, .aload_n 2, 1, 0, 0, []), (664, .aload_n 0, 1, 0, 0, []), (665, .iload_n 3, 1, 0, 0, []), (666, .iconst 1, 1, 0, 1, []), (667, .iadd, 1, 0, 0, []), (668, .iaload, 1, 0, 0, []), (669, .invokevirtual 84, 3, 0, 0, [])]
def xm_233_21 : List xEn := [(672, .if_icmp .eq 746, 3, 1418, 0, []), (675, .iconst 0, 1, 0, 0, []), (676, .ireturn, 1, 0, 0, []), (677, .aload_n 1, 1, 0, 0, []), (678, .invokevirtual 85, 3, 0, 0, []), (681, .aload_n 2, 1, 0, 0, []), (682, .invokevirtual 88, 3, 0, 0, []), (685, .if_icmp .eq 733, 3, 1418, 0, []), (688, .iconst 0, 1, 0, 0, []), (689, .ireturn, 1, 0, 0, []), (690, .aload_n 1, 1, 0, 0, []), (691, .invokevirtual 89, 3, 0, 0, []), (694, .aload_n 2, 1, 0, 0, []), (695, .invokevirtual 92, 3, 0, 0, []), (698, .if_icmp .eq 720, 3, 1418, 0, []), (701, .iconst 0, 1, 0, 0, []), (702, .ireturn, 1, 0, 0, []), (703, .aload_n 1, 1, 0, 0, [])]
def xm_233_22 : List xEn := [(704, .aload_n 0, 1, 0, 0, []), (705, .iload_n 3, 1, 0, 0, []), (706, .iconst 1, 1, 0, 1, []), (707, .iadd, 1, 0, 0, []), (708, .iaload, 1, 0, 0, []), (709, .aload_n 0, 1, 0, 0, []), (710, .iload_n 3, 1, 0, 0, []), (711, .iconst 2, 1, 0, 2, []), (712, .iadd, 1, 0, 0, []), (713, .iaload, 1, 0, 0, []), (714, .invokevirtual 93, 3, 0, 0, []), (717, .aload_n 2, 1, 0, 0, []), (718, .aload_n 0, 1, 0, 0, []), (719, .iload_n 3, 1, 0, 0, []), (720, .iconst 1, 1, 0, 1, []), (721, .iadd, 1, 0, 0, []), (722, .iaload, 1, 0, 0, []), (723, .aload_n 0, 1, 0, 0, []), (724, .iload_n 3, 1, 0, 0, []), (725, .iconst 2, 1, 0, 2, []), (726, .iadd, 1, 0, 0, []), (727, .iaload, 1, 0, 0, []), (728, .invokevirtual 96, 3, 0, 0, []), (731, .if_icmp .eq 687, 3, 1418, 0, []), (734, .iconst 0, 1, 0, 0, []), (735, .ireturn, 1, 0, 0, [])]
def xm_233_23 : List xEn := [(736, .aload_n 1, 1, 0, 0, []), (737, .aload_n 0, 1, 0, 0, []), (738, .iload_n 3, 1, 0, 0, []), (739, .iconst 1, 1, 0, 1, []), (740, .iadd, 1, 0, 0, []), (741, .iaload, 1, 0, 0, []), (742, .invokevirtual 97, 3, 0, 0, []), (745, .aload_n 2, 1, 0, 0, []), (746, .aload_n 0, 1, 0, 0, []), (747, .iload_n 3, 1, 0, 0, []), (748, .iconst 1, 1, 0, 1, []), (749, .iadd, 1, 0, 0, []), (750, .iaload, 1, 0, 0, []), (751, .invokevirtual 100, 3, 0, 0, []), (754, .if_icmp .eq 664, 3, 1418, 0, []), (757, .iconst 0, 1, 0, 0, []), (758, .ireturn, 1, 0, 0, []), (759, .aload_n 1, 1, 0, 0, []), (760, .invokevirtual 101, 3, 0, 0, []), (763, .aload_n 2, 1, 0, 0, []), (764, .invokevirtual 104, 3, 0, 0, []), (767, .if_icmp .eq 651, 3, 1418, 0, [])]
def xm_233_24 : List xEn := [(770, .iconst 0, 1, 0, 0, []), (771, .ireturn, 1, 0, 0, []), (772, .aload_n 1, 1, 0, 0, []), (773, .invokevirtual 105, 3, 0, 0, []), (776, .aload_n 2, 1, 0, 0, []), (777, .invokevirtual 108, 3, 0, 0, []), (780, .if_icmp .eq 638, 3, 1418, 0, []), (783, .iconst 0, 1, 0, 0, []), (784, .ireturn, 1, 0, 0, []), (785, .aload_n 1, 1, 0, 0, []), (786, .invokevirtual 109, 3, 0, 0, []), (789, .aload_n 2, 1, 0, 0, []), (790, .invokevirtual 112, 3, 0, 0, []), (793, .if_icmp .eq 625, 3, 1418, 0, []), (796, .iconst 0, 1, 0, 0, []), (797, .ireturn, 1, 0, 0, []), (798, .aload_n 1, 1, 0, 0, []), (799, .aload_n 0, 1, 0, 0, [])]
def xm_233_25 : List xEn := [(800, .iload_n 3, 1, 0, 0, []), (801, .iconst 1, 1, 0, 1, []), (802, .iadd, 1, 0, 0, []), (803, .iaload, 1, 0, 0, []), (804, .aload_n 0, 1, 0, 0, []), (805, .iload_n 3, 1, 0, 0, []), (806, .iconst 2, 1, 0, 2, []), (807, .iadd, 1, 0, 0, []), (808, .iaload, 1, 0, 0, []), (809, .aload_n 0, 1, 0, 0, []), (810, .iload_n 3, 1, 0, 0, []), (811, .iconst 3, 1, 0, 3, []), (812, .iadd, 1, 0, 0, []), (813, .iaload, 1, 0, 0, []), (814, .invokevirtual 113, 3, 0, 0, []), (817, .aload_n 2, 1, 0, 0, []), (818, .aload_n 0, 1, 0, 0, []), (819, .iload_n 3, 1, 0, 0, []), (820, .iconst 1, 1, 0, 1, []), (821, .iadd, 1, 0, 0, []), (822, .iaload, 1, 0, 0, []), (823, .aload_n 0, 1, 0, 0, []), (824, .iload_n 3, 1, 0, 0, []), (825, .iconst 2, 1, 0, 2, []), (826, .iadd, 1, 0, 0, []), (827, .iaload, 1, 0, 0, []), (828, .aload_n 0, 1, 0, 0, []), (829, .iload_n 3, 1, 0, 0, []), (830, .iconst 3, 1, 0, 3, []), (831, .iadd, 1, 0, 0, [])]
def xm_233_26 : List xEn := [(832, .iaload, 1, 0, 0, []), (833, .invokevirtual 116, 3, 0, 0, []), (836, .if_icmp .eq 582, 3, 1418, 0, []), (839, .iconst 0, 1, 0, 0, []), (840, .ireturn, 1, 0, 0, []), (841, .aload_n 1, 1, 0, 0, []), (842, .aload_n 0, 1, 0, 0, []), (843, .iload_n 3, 1, 0, 0, []), (844, .iconst 1, 1, 0, 1, []), (845, .iadd, 1, 0, 0, []), (846, .iaload, 1, 0, 0, []), (847, .aload_n 0, 1, 0, 0, []), (848, .iload_n 3, 1, 0, 0, []), (849, .iconst 2, 1, 0, 2, []), (850, .iadd, 1, 0, 0, []), (851, .iaload, 1, 0, 0, []), (852, .aload_n 0, 1, 0, 0, []), (853, .iload_n 3, 1, 0, 0, []), (854, .iconst 3, 1, 0, 3, []), (855, .iadd, 1, 0, 0, []), (856, .iaload, 1, 0, 0, []), (857, .invokevirtual 117, 3, 0, 0, []), (860, .aload_n 2, 1, 0, 0, []), (861, .aload_n 0, 1, 0, 0, []), (862, .iload_n 3, 1, 0, 0, []), (863, .iconst 1, 1, 0, 1, [])]
def xm_233_27 : List xEn := [(864, .iadd, 1, 0, 0, []), (865, .iaload, 1, 0, 0, []), (866, .aload_n 0, 1, 0, 0, []), (867, .iload_n 3, 1, 0, 0, []), (868, .iconst 2, 1, 0, 2, []), (869, .iadd, 1, 0, 0, []), (870, .iaload, 1, 0, 0, []), (871, .aload_n 0, 1, 0, 0, []), (872, .iload_n 3, 1, 0, 0, []), (873, .iconst 3, 1, 0, 3, []), (874, .iadd, 1, 0, 0, []), (875, .iaload, 1, 0, 0, []), (876, .invokevirtual 120, 3, 0, 0, []), (879, .if_icmp .eq 539, 3, 1418, 0, []), (882, .iconst 0, 1, 0, 0, []), (883, .ireturn, 1, 0, 0, []), (884, .aload_n 1, 1, 0, 0, []), (885, .aload_n 0, 1, 0, 0, []), (886, .iload_n 3, 1, 0, 0, []), (887, .iconst 1, 1, 0, 1, []), (888, .iadd, 1, 0, 0, []), (889, .iaload, 1, 0, 0, []), (890, .aload_n 0, 1, 0, 0, []), (891, .iload_n 3, 1, 0, 0, []), (892, .iconst 2, 1, 0, 2, []), (893, .iadd, 1, 0, 0, []), (894, .iaload, 1, 0, 0, []), (895, .invokevirtual 121, 3, 0, 0, [])]
def xm_233_28 : List xEn := [(898, .aload_n 2, 1, 0, 0, []), (899, .aload_n 0, 1, 0, 0, []), (900, .iload_n 3, 1, 0, 0, []), (901, .iconst 1, 1, 0, 1, []), (902, .iadd, 1, 0, 0, []), (903, .iaload, 1, 0, 0, []), (904, .aload_n 0, 1, 0, 0, []), (905, .iload_n 3, 1, 0, 0, []), (906, .iconst 2, 1, 0, 2, []), (907, .iadd, 1, 0, 0, []), (908, .iaload, 1, 0, 0, []), (909, .invokevirtual 125, 3, 0, 0, []), (912, .lcmp, 1, 0, 0, []), (913, .ifCond .eq 505, 3, 1418, 0, []), (916, .iconst 0, 1, 0, 0, []), (917, .ireturn, 1, 0, 0, []), (918, .aload_n 1, 1, 0, 0, []), (919, .invokevirtual 126, 3, 0, 0, []), (922, .aload_n 2, 1, 0, 0, []), (923, .invokevirtual 129, 3, 0, 0, []), (926, .if_icmp .eq 492, 3, 1418, 0, [])]
def xm_233_29 : List xEn := [(929, .iconst 0, 1, 0, 0, []), (930, .ireturn, 1, 0, 0, []), (931, .aload_n 1, 1, 0, 0, []), (932, .aload_n 0, 1, 0, 0, []), (933, .iload_n 3, 1, 0, 0, []), (934, .iconst 1, 1, 0, 1, []), (935, .iadd, 1, 0, 0, []), (936, .iaload, 1, 0, 0, []), (937, .invokevirtual 130, 3, 0, 0, []), (940, .aload_n 2, 1, 0, 0, []), (941, .aload_n 0, 1, 0, 0, []), (942, .iload_n 3, 1, 0, 0, []), (943, .iconst 1, 1, 0, 1, []), (944, .iadd, 1, 0, 0, []), (945, .iaload, 1, 0, 0, []), (946, .invokevirtual 133, 3, 0, 0, []), (949, .if_icmp .eq 469, 3, 1418, 0, []), (952, .iconst 0, 1, 0, 0, []), (953, .ireturn, 1, 0, 0, []), (954, .aload_n 1, 1, 0, 0, []), (955, .invokevirtual 134, 3, 0, 0, []), (958, .aload_n 2, 1, 0, 0, []), (959, .invokevirtual 137, 3, 0, 0, [])]
def xm_233_30 : List xEn := [(962, .if_icmp .eq 456, 3, 1418, 0, []), (965, .iconst 0, 1, 0, 0, []), (966, .ireturn, 1, 0, 0, []), (967, .aload_n 1, 1, 0, 0, []), (968, .aload_n 0, 1, 0, 0, []), (969, .iload_n 3, 1, 0, 0, []), (970, .iconst 1, 1, 0, 1, []), (971, .iadd, 1, 0, 0, []), (972, .iaload, 1, 0, 0, []), (973, .invokevirtual 138, 3, 0, 0, []), (976, .aload_n 2, 1, 0, 0, []), (977, .aload_n 0, 1, 0, 0, []), (978, .iload_n 3, 1, 0, 0, []), (979, .iconst 1, 1, 0, 1, []), (980, .iadd, 1, 0, 0, []), (981, .iaload, 1, 0, 0, []), (982, .invokevirtual 141, 3, 0, 0, []), (985, .if_icmp .eq 433, 3, 1418, 0, []), (988, .iconst 0, 1, 0, 0, []), (989, .ireturn, 1, 0, 0, []), (990, .aload_n 1, 1, 0, 0, []), (991, .aload_n 0, 1, 0, 0, [])]
def xm_233_31 : List xEn := [(992, .iload_n 3, 1, 0, 0, []), (993, .iconst 1, 1, 0, 1, []), (994, .iadd, 1, 0, 0, []), (995, .iaload, 1, 0, 0, []), (996, .aload_n 0, 1, 0, 0, []), (997, .iload_n 3, 1, 0, 0, []), (998, .iconst 2, 1, 0, 2, []), (999, .iadd, 1, 0, 0, []), (1000, .iaload, 1, 0, 0, []), (1001, .invokevirtual 142, 3, 0, 0, []), (1004, .aload_n 2, 1, 0, 0, []), (1005, .aload_n 0, 1, 0, 0, []), (1006, .iload_n 3, 1, 0, 0, []), (1007, .iconst 1, 1, 0, 1, []), (1008, .iadd, 1, 0, 0, []), (1009, .iaload, 1, 0, 0, []), (1010, .aload_n 0, 1, 0, 0, []), (1011, .iload_n 3, 1, 0, 0, []), (1012, .iconst 2, 1, 0, 2, []), (1013, .iadd, 1, 0, 0, []), (1014, .iaload, 1, 0, 0, []), (1015, .invokevirtual 145, 3, 0, 0, []), (1018, .if_icmp .eq 400, 3, 1418, 0, []), (1021, .iconst 0, 1, 0, 0, []), (1022, .ireturn, 1, 0, 0, []), (1023, .aload_n 1, 1, 0, 0, [])]
def xm_233_32 : List xEn := [(1024, .invokevirtual 146, 3, 0, 0, []), (1027, .aload_n 2, 1, 0, 0, []), (1028, .invokevirtual 149, 3, 0, 0, []), (1031, .if_icmp .eq 387, 3, 1418, 0, []), (1034, .iconst 0, 1, 0, 0, []), (1035, .ireturn, 1, 0, 0, []), (1036, .aload_n 1, 1, 0, 0, []), (1037, .invokevirtual 150, 3, 0, 0, []), (1040, .aload_n 2, 1, 0, 0, []), (1041, .invokevirtual 153, 3, 0, 0, []), (1044, .if_icmp .eq 374, 3, 1418, 0, []), (1047, .iconst 0, 1, 0, 0, []), (1048, .ireturn, 1, 0, 0, []), (1049, .aload_n 1, 1, 0, 0, []), (1050, .aload_n 0, 1, 0, 0, []), (1051, .iload_n 3, 1, 0, 0, []), (1052, .iconst 1, 1, 0, 1, []), (1053, .iadd, 1, 0, 0, []), (1054, .iaload, 1, 0, 0, []), (1055, .aload_n 0, 1, 0, 0, [])]
def xm_233_33 : List xEn := [(1056, .iload_n 3, 1, 0, 0, []), (1057, .iconst 2, 1, 0, 2, []), (1058, .iadd, 1, 0, 0, []), (1059, .iaload, 1, 0, 0, []), (1060, .invokevirtual 154, 3, 0, 0, []), (1063, .aload_n 2, 1, 0, 0, []), (1064, .aload_n 0, 1, 0, 0, []), (1065, .iload_n 3, 1, 0, 0, []), (1066, .iconst 1, 1, 0, 1, []), (1067, .iadd, 1, 0, 0, []), (1068, .iaload, 1, 0, 0, []), (1069, .aload_n 0, 1, 0, 0, []), (1070, .iload_n 3, 1, 0, 0, []), (1071, .iconst 2, 1, 0, 2, []), (1072, .iadd, 1, 0, 0, []), (1073, .iaload, 1, 0, 0, []), (1074, .invokevirtual 157, 3, 0, 0, []), (1077, .if_icmp .eq 341, 3, 1418, 0, []), (1080, .iconst 0, 1, 0, 0, []), (1081, .ireturn, 1, 0, 0, []), (1082, .aload_n 1, 1, 0, 0, []), (1083, .aload_n 0, 1, 0, 0, []), (1084, .iload_n 3, 1, 0, 0, []), (1085, .iconst 1, 1, 0, 1, []), (1086, .iadd, 1, 0, 0, []), (1087, .iaload, 1, 0, 0, [])]
def xm_233_34 : List xEn := [(1088, .aload_n 0, 1, 0, 0, []), (1089, .iload_n 3, 1, 0, 0, []), (1090, .iconst 2, 1, 0, 2, []), (1091, .iadd, 1, 0, 0, []), (1092, .iaload, 1, 0, 0, []), (1093, .invokevirtual 158, 3, 0, 0, []), (1096, .aload_n 2, 1, 0, 0, []), (1097, .aload_n 0, 1, 0, 0, []), (1098, .iload_n 3, 1, 0, 0, []), (1099, .iconst 1, 1, 0, 1, []), (1100, .iadd, 1, 0, 0, []), (1101, .iaload, 1, 0, 0, []), (1102, .aload_n 0, 1, 0, 0, []), (1103, .iload_n 3, 1, 0, 0, []), (1104, .iconst 2, 1, 0, 2, []), (1105, .iadd, 1, 0, 0, []), (1106, .iaload, 1, 0, 0, []), (1107, .invokevirtual 161, 3, 0, 0, []), (1110, .if_icmp .eq 308, 3, 1418, 0, []), (1113, .iconst 0, 1, 0, 0, []), (1114, .ireturn, 1, 0, 0, []), (1115, .aload_n 1, 1, 0, 0, []), (1116, .aload_n 0, 1, 0, 0, []), (1117, .iload_n 3, 1, 0, 0, []), (1118, .iconst 1, 1, 0, 1, []), (1119, .iadd, 1, 0, 0, [])]
def xm_233_35 : List xEn := [(1120, .iaload, 1, 0, 0, []), (1121, .aload_n 0, 1, 0, 0, []), (1122, .iload_n 3, 1, 0, 0, []), (1123, .iconst 2, 1, 0, 2, []), (1124, .iadd, 1, 0, 0, []), (1125, .iaload, 1, 0, 0, []), (1126, .aload_n 0, 1, 0, 0, []), (1127, .iload_n 3, 1, 0, 0, []), (1128, .iconst 3, 1, 0, 3, []), (1129, .iadd, 1, 0, 0, []), (1130, .iaload, 1, 0, 0, []), (1131, .invokevirtual 162, 3, 0, 0, []), (1134, .aload_n 2, 1, 0, 0, []), (1135, .aload_n 0, 1, 0, 0, []), (1136, .iload_n 3, 1, 0, 0, []), (1137, .iconst 1, 1, 0, 1, []), (1138, .iadd, 1, 0, 0, []), (1139, .iaload, 1, 0, 0, []), (1140, .aload_n 0, 1, 0, 0, []), (1141, .iload_n 3, 1, 0, 0, []), (1142, .iconst 2, 1, 0, 2, []), (1143, .iadd, 1, 0, 0, []), (1144, .iaload, 1, 0, 0, []), (1145, .aload_n 0, 1, 0, 0, []), (1146, .iload_n 3, 1, 0, 0, []), (1147, .iconst 3, 1, 0, 3, []), (1148, .iadd, 1, 0, 0, []), (1149, .iaload, 1, 0, 0, []), (1150, .invokevirtual 165, 3, 0, 0, [])]
def xm_233_36 : List xEn := [(1153, .if_icmp .eq 265, 3, 1418, 0, []), (1156, .iconst 0, 1, 0, 0, []), (1157, .ireturn, 1, 0, 0, []), (1158, .aload_n 1, 1, 0, 0, []), (1159, .aload_n 0, 1, 0, 0, []), (1160, .iload_n 3, 1, 0, 0, []), (1161, .iconst 1, 1, 0, 1, []), (1162, .iadd, 1, 0, 0, []), (1163, .iaload, 1, 0, 0, []), (1164, .aload_n 0, 1, 0, 0, []), (1165, .iload_n 3, 1, 0, 0, []), (1166, .iconst 2, 1, 0, 2, []), (1167, .iadd, 1, 0, 0, []), (1168, .iaload, 1, 0, 0, []), (1169, .aload_n 0, 1, 0, 0, []), (1170, .iload_n 3, 1, 0, 0, []), (1171, .iconst 3, 1, 0, 3, []), (1172, .iadd, 1, 0, 0, []), (1173, .iaload, 1, 0, 0, []), (1174, .invokevirtual 166, 3, 0, 0, []), (1177, .aload_n 2, 1, 0, 0, []), (1178, .aload_n 0, 1, 0, 0, []), (1179, .iload_n 3, 1, 0, 0, []), (1180, .iconst 1, 1, 0, 1, []), (1181, .iadd, 1, 0, 0, []), (1182, .iaload, 1, 0, 0, []), (1183, .aload_n 0, 1, 0, 0, [])]
def xm_233_37 : List xEn := [(1184, .iload_n 3, 1, 0, 0, []), (1185, .iconst 2, 1, 0, 2, []), (1186, .iadd, 1, 0, 0, []), (1187, .iaload, 1, 0, 0, []), (1188, .aload_n 0, 1, 0, 0, []), (1189, .iload_n 3, 1, 0, 0, []), (1190, .iconst 3, 1, 0, 3, []), (1191, .iadd, 1, 0, 0, []), (1192, .iaload, 1, 0, 0, []), (1193, .invokevirtual 169, 3, 0, 0, []), (1196, .if_icmp .eq 222, 3, 1418, 0, []), (1199, .iconst 0, 1, 0, 0, []), (1200, .ireturn, 1, 0, 0, []), (1201, .aload_n 1, 1, 0, 0, []), (1202, .aload_n 0, 1, 0, 0, []), (1203, .iload_n 3, 1, 0, 0, []), (1204, .iconst 1, 1, 0, 1, []), (1205, .iadd, 1, 0, 0, []), (1206, .iaload, 1, 0, 0, []), (1207, .aload_n 0, 1, 0, 0, []), (1208, .iload_n 3, 1, 0, 0, []), (1209, .iconst 2, 1, 0, 2, []), (1210, .iadd, 1, 0, 0, []), (1211, .iaload, 1, 0, 0, []), (1212, .aload_n 0, 1, 0, 0, []), (1213, .iload_n 3, 1, 0, 0, []), (1214, .iconst 3, 1, 0, 3, []), (1215, .iadd, 1, 0, 0, [])]
def xm_233_38 : List xEn := [(1216, .iaload, 1, 0, 0, []), (1217, .aload_n 0, 1, 0, 0, []), (1218, .iload_n 3, 1, 0, 0, []), (1219, .iconst 4, 1, 0, 4, []), (1220, .iadd, 1, 0, 0, []), (1221, .iaload, 1, 0, 0, []), (1222, .aload_n 0, 1, 0, 0, []), (1223, .iload_n 3, 1, 0, 0, []), (1224, .iconst 5, 1, 0, 5, []), (1225, .iadd, 1, 0, 0, []), (1226, .iaload, 1, 0, 0, []), (1227, .invokevirtual 170, 3, 0, 0, []), (1230, .aload_n 2, 1, 0, 0, []), (1231, .aload_n 0, 1, 0, 0, []), (1232, .iload_n 3, 1, 0, 0, []), (1233, .iconst 1, 1, 0, 1, []), (1234, .iadd, 1, 0, 0, []), (1235, .iaload, 1, 0, 0, []), (1236, .aload_n 0, 1, 0, 0, []), (1237, .iload_n 3, 1, 0, 0, []), (1238, .iconst 2, 1, 0, 2, []), (1239, .iadd, 1, 0, 0, []), (1240, .iaload, 1, 0, 0, []), (1241, .aload_n 0, 1, 0, 0, []), (1242, .iload_n 3, 1, 0, 0, []), (1243, .iconst 3, 1, 0, 3, []), (1244, .iadd, 1, 0, 0, []), (1245, .iaload, 1, 0, 0, []), (1246, .aload_n 0, 1, 0, 0, []), (1247, .iload_n 3, 1, 0, 0, [])]
def xm_233_39 : List xEn := [(1248, .iconst 4, 1, 0, 4, []), (1249, .iadd, 1, 0, 0, []), (1250, .iaload, 1, 0, 0, []), (1251, .aload_n 0, 1, 0, 0, []), (1252, .iload_n 3, 1, 0, 0, []), (1253, .iconst 5, 1, 0, 5, []), (1254, .iadd, 1, 0, 0, []), (1255, .iaload, 1, 0, 0, []), (1256, .invokevirtual 174, 3, 0, 0, []), (1259, .if_icmp .eq 159, 3, 1418, 0, []), (1262, .iconst 0, 1, 0, 0, []), (1263, .ireturn, 1, 0, 0, []), (1264, .aload_n 1, 1, 0, 0, []), (1265, .aload_n 0, 1, 0, 0, []), (1266, .iload_n 3, 1, 0, 0, []), (1267, .iconst 1, 1, 0, 1, []), (1268, .iadd, 1, 0, 0, []), (1269, .iaload, 1, 0, 0, []), (1270, .invokevirtual 175, 3, 0, 0, []), (1273, .aload_n 2, 1, 0, 0, []), (1274, .aload_n 0, 1, 0, 0, []), (1275, .iload_n 3, 1, 0, 0, []), (1276, .iconst 1, 1, 0, 1, []), (1277, .iadd, 1, 0, 0, []), (1278, .iaload, 1, 0, 0, []), (1279, .invokevirtual 178, 3, 0, 0, [])]
def xm_233_40 : List xEn := [(1282, .if_icmp .eq 136, 3, 1418, 0, []), (1285, .iconst 0, 1, 0, 0, []), (1286, .ireturn, 1, 0, 0, []), (1287, .aload_n 1, 1, 0, 0, []), (1288, .aload_n 0, 1, 0, 0, []), (1289, .iload_n 3, 1, 0, 0, []), (1290, .iconst 1, 1, 0, 1, []), (1291, .iadd, 1, 0, 0, []), (1292, .iaload, 1, 0, 0, []), (1293, .invokevirtual 179, 3, 0, 0, []), (1296, .aload_n 2, 1, 0, 0, []), (1297, .aload_n 0, 1, 0, 0, []), (1298, .iload_n 3, 1, 0, 0, []), (1299, .iconst 1, 1, 0, 1, []), (1300, .iadd, 1, 0, 0, []), (1301, .iaload, 1, 0, 0, []), (1302, .invokevirtual 182, 3, 0, 0, []), (1305, .if_icmp .eq 113, 3, 1418, 0, []), (1308, .iconst 0, 1, 0, 0, []), (1309, .ireturn, 1, 0, 0, []), (1310, .aload_n 1, 1, 0, 0, []), (1311, .aload_n 0, 1, 0, 0, [])]
def xm_233_41 : List xEn := [(1312, .iload_n 3, 1, 0, 0, []), (1313, .iconst 1, 1, 0, 1, []), (1314, .iadd, 1, 0, 0, []), (1315, .iaload, 1, 0, 0, []), (1316, .invokevirtual 183, 3, 0, 0, []), (1319, .aload_n 2, 1, 0, 0, []), (1320, .aload_n 0, 1, 0, 0, []), (1321, .iload_n 3, 1, 0, 0, []), (1322, .iconst 1, 1, 0, 1, []), (1323, .iadd, 1, 0, 0, []), (1324, .iaload, 1, 0, 0, []), (1325, .invokevirtual 186, 3, 0, 0, []), (1328, .if_icmp .eq 90, 3, 1418, 0, []), (1331, .iconst 0, 1, 0, 0, []), (1332, .ireturn, 1, 0, 0, []), (1333, .aload_n 1, 1, 0, 0, []), (1334, .invokevirtual 187, 3, 0, 0, []), (1337, .aload_n 2, 1, 0, 0, []), (1338, .invokevirtual 190, 3, 0, 0, []), (1341, .if_icmp .eq 77, 3, 1418, 0, [])]
def xm_233_42 : List xEn := [(1344, .iconst 0, 1, 0, 0, []), (1345, .ireturn, 1, 0, 0, []), (1346, .aload_n 1, 1, 0, 0, []), (1347, .invokevirtual 191, 3, 0, 0, []), (1350, .aload_n 2, 1, 0, 0, []), (1351, .invokevirtual 194, 3, 0, 0, []), (1354, .if_icmp .eq 64, 3, 1418, 0, []), (1357, .iconst 0, 1, 0, 0, []), (1358, .ireturn, 1, 0, 0, []), (1359, .aload_n 1, 1, 0, 0, []), (1360, .invokevirtual 195, 3, 0, 0, []), (1363, .aload_n 2, 1, 0, 0, []), (1364, .invokevirtual 198, 3, 0, 0, []), (1367, .if_icmp .eq 51, 3, 1418, 0, []), (1370, .iconst 0, 1, 0, 0, []), (1371, .ireturn, 1, 0, 0, []), (1372, .aload_n 1, 1, 0, 0, []), (1373, .aload_n 0, 1, 0, 0, []), (1374, .iload_n 3, 1, 0, 0, []), (1375, .iconst 1, 1, 0, 1, [])]
def xm_233_43 : List xEn := [(1376, .iadd, 1, 0, 0, []), (1377, .iaload, 1, 0, 0, []), (1378, .invokevirtual 199, 3, 0, 0, []), (1381, .aload_n 2, 1, 0, 0, []), (1382, .aload_n 0, 1, 0, 0, []), (1383, .iload_n 3, 1, 0, 0, []), (1384, .iconst 1, 1, 0, 1, []), (1385, .iadd, 1, 0, 0, []), (1386, .iaload, 1, 0, 0, []), (1387, .invokevirtual 202, 3, 0, 0, []), (1390, .if_icmp .eq 28, 3, 1418, 0, []), (1393, .iconst 0, 1, 0, 0, []), (1394, .ireturn, 1, 0, 0, []), (1395, .aload_n 1, 1, 0, 0, []), (1396, .aload_n 0, 1, 0, 0, []), (1397, .iload_n 3, 1, 0, 0, []), (1398, .iconst 1, 1, 0, 1, []), (1399, .iadd, 1, 0, 0, []), (1400, .iaload, 1, 0, 0, []), (1401, .invokevirtual 203, 3, 0, 0, []), (1404, .aload_n 2, 1, 0, 0, []), (1405, .aload_n 0, 1, 0, 0, []), (1406, .iload_n 3, 1, 0, 0, []), (1407, .iconst 1, 1, 0, 1, [])]
def xm_233_44 : List xEn := [(1408, .iadd, 1, 0, 0, []), (1409, .iaload, 1, 0, 0, []), (1410, .invokevirtual 206, 3, 0, 0, []), (1413, .if_icmp .eq 5, 3, 1418, 0, []), (1416, .iconst 0, 1, 0, 0, []), (1417, .ireturn, 1, 0, 0, []), (1418, .iinc 3 6, 3, 0, 6, []), (1421, .goto (-1403), 3, 18, 0, []), (1424, .iconst 1, 1, 0, 1, []), (1425, .ireturn, 1, 0, 0, [])]
/-- L_law -/
def xm_233 : xT := (7, [xm_233_0, xm_233_1, [], [], [], [], [], xm_233_7, xm_233_8, xm_233_9, xm_233_10, xm_233_11, xm_233_12, xm_233_13, xm_233_14, xm_233_15, xm_233_16, xm_233_17, xm_233_18, xm_233_19, xm_233_20, xm_233_21, xm_233_22, xm_233_23, xm_233_24, xm_233_25, xm_233_26, xm_233_27, xm_233_28, xm_233_29, xm_233_30, xm_233_31, xm_233_32, xm_233_33, xm_233_34, xm_233_35, xm_233_36, xm_233_37, xm_233_38, xm_233_39, xm_233_40, xm_233_41, xm_233_42, xm_233_43, xm_233_44], [], some .boolean, false, 4)
def xMT : List xT := [xm_0, xm_1, xm_2, xm_3, xm_4, xm_5, xm_6, xm_7, xm_8, xm_9, xm_10, xm_11, xm_12, xm_13, xm_14, xm_15, xm_16, xm_17, xm_18, xm_19, xm_20, xm_21, xm_22, xm_23, xm_24, xm_25, xm_26, xm_27, xm_28, xm_29, xm_30, xm_31, xm_32, xm_33, xm_34, xm_35, xm_36, xm_37, xm_38, xm_39, xm_40, xm_41, xm_42, xm_43, xm_44, xm_45, xm_46, xm_47, xm_48, xm_49, xm_50, xm_51, xm_52, xm_53, xm_54, xm_55, xm_56, xm_57, xm_58, xm_59, xm_60, xm_61, xm_62, xm_63, xm_64, xm_65, xm_66, xm_67, xm_68, xm_69, xm_70, xm_71, xm_72, xm_73, xm_74, xm_75, xm_76, xm_77, xm_78, xm_79, xm_80, xm_81, xm_82, xm_83, xm_84, xm_85, xm_86, xm_87, xm_88, xm_89, xm_90, xm_91, xm_92, xm_93, xm_94, xm_95, xm_96, xm_97, xm_98, xm_99, xm_100, xm_101, xm_102, xm_103, xm_104, xm_105, xm_106, xm_107, xm_108, xm_109, xm_110, xm_111, xm_112, xm_113, xm_114, xm_115, xm_116, xm_117, xm_118, xm_119, xm_120, xm_121, xm_122, xm_123, xm_124, xm_125, xm_126, xm_127, xm_128, xm_129, xm_130, xm_131, xm_132, xm_133, xm_134, xm_135, xm_136, xm_137, xm_138, xm_139, xm_140, xm_141, xm_142, xm_143, xm_144, xm_145, xm_146, xm_147, xm_148, xm_149, xm_150, xm_151, xm_152, xm_153, xm_154, xm_155, xm_156, xm_157, xm_158, xm_159, xm_160, xm_161, xm_162, xm_163, xm_164, xm_165, xm_166, xm_167, xm_168, xm_169, xm_170, xm_171, xm_172, xm_173, xm_174, xm_175, xm_176, xm_177, xm_178, xm_179, xm_180, xm_181, xm_182, xm_183, xm_184, xm_185, xm_186, xm_187, xm_188, xm_189, xm_190, xm_191, xm_192, xm_193, xm_194, xm_195, xm_196, xm_197, xm_198, xm_199, xm_200, xm_201, xm_202, xm_203, xm_204, xm_205, xm_206, xm_207, xm_208, xm_209, xm_210, xm_211, xm_212, xm_213, xm_214, xm_215, xm_216, xm_217, xm_218, xm_219, xm_220, xm_221, xm_222, xm_223, xm_224, xm_225, xm_226, xm_227, xm_228, xm_229, xm_230, xm_231, xm_232, xm_233]
def xFT : xTF := [[],
  [(9, 0, 0, .array .int, true), (15, 0, 1, .array .int, true), (18, 0, 2, .array .int, true), (21, 0, 3, .array .int, true), (24, 0, 4, .array .int, true), (27, 0, 5, .array .int, true), (30, 0, 6, .array .int, true), (33, 0, 8, .array .int, true), (36, 0, 9, .array .int, true), (39, 1, 0, .int, false), (45, 0, 10, .int, false), (46, 1, 7, .int, false), (49, 0, 11, .int, false), (50, 1, 6, .int, false), (53, 1, 10, .array .int, true), (56, 0, 12, .int, false), (59, 0, 13, .int, false), (62, 1, 1, .array .int, true), (69, 1, 2, .array .int, true), (70, 1, 4, .array .int, true), (105, 0, 7, .int, false), (135, 0, 15, .int, false), (138, 0, 14, .int, false)],
  [(9, 1, 1, .array .int, true), (15, 1, 2, .array .int, true), (18, 1, 3, .array .int, true), (21, 1, 4, .array .int, true), (24, 1, 5, .array .int, true), (27, 1, 10, .array .int, true), (30, 1, 11, .array .int, true), (33, 1, 12, .array .int, true), (36, 1, 13, .int, false), (40, 1, 14, .array .int, true), (43, 1, 0, .int, false), (46, 1, 6, .int, false), (49, 1, 7, .int, false), (52, 1, 8, .int, false), (55, 1, 9, .int, false)],
  [(11, 2, 0, .array .int, true), (15, 2, 1, .array .int, true), (18, 2, 2, .array .int, true)],
  [(11, 3, 0, .array .int, true), (15, 3, 2, .array .int, true), (18, 3, 3, .array .int, true), (21, 3, 4, .array .int, true), (24, 3, 5, .array .int, true), (27, 3, 1, .int, false), (42, 3, 7, .int, false), (45, 3, 8, .int, false), (48, 3, 9, .int, false), (64, 1, 0, .int, false), (73, 1, 2, .array .int, true), (80, 1, 3, .array .int, true), (83, 1, 4, .array .int, true), (93, 1, 5, .array .int, true), (96, 3, 6, .int, false)],
  [(9, 4, 0, .array .int, true), (16, 4, 1, .object "WhoBowsLast$Scene", true), (20, 4, 2, .object "WhoBowsLast$Scene", true), (23, 4, 3, .object "WhoBowsLast$Scene", true), (29, 4, 4, .object "WhoBowsLast$Orders", true), (36, 4, 5, .object "WhoBowsLast$Tape", true), (43, 4, 6, .object "WhoBowsLast$Sheets", true), (47, 4, 7, .boolean, false), (59, 1, 0, .int, false), (70, 1, 1, .array .int, true), (73, 1, 2, .array .int, true), (76, 1, 3, .array .int, true), (79, 1, 4, .array .int, true), (107, 1, 5, .array .int, true), (110, 1, 7, .int, false), (119, 1, 6, .int, false), (128, 1, 10, .array .int, true), (131, 1, 8, .int, false), (134, 1, 9, .int, false), (161, 0, 9, .array .int, true), (179, 0, 13, .int, false), (194, 0, 14, .int, false), (197, 0, 15, .int, false), (231, 1, 13, .int, false), (249, 1, 14, .array .int, true), (264, 2, 1, .array .int, true), (271, 2, 0, .array .int, true), (298, 3, 1, .int, false)],
  [(9, 5, 0, .array .int, true), (13, 5, 1, .array .int, true), (16, 5, 2, .array .int, true), (19, 5, 4, .array .int, true), (22, 5, 5, .array .int, true), (25, 5, 6, .array .int, true), (28, 5, 8, .array .int, true), (31, 5, 9, .array .int, true), (34, 5, 11, .array .int, true), (37, 5, 17, .array .char, true), (41, 5, 18, .array .char, true), (44, 5, 19, .array .char, true), (47, 5, 20, .array .int, true), (50, 5, 21, .array .int, true), (53, 5, 22, .array .int, true), (56, 5, 23, .array .int, true), (142, 5, 7, .int, false), (158, 5, 10, .int, false), (183, 5, 12, .int, false), (186, 5, 15, .int, false), (189, 5, 14, .int, false), (192, 5, 16, .long, false), (196, 5, 13, .int, false), (253, 5, 24, .int, false), (259, 5, 3, .boolean, false)],
  [],
  [],
  [],
  [(9, 100, 0, .int, true), (15, 100, 1, .int, true)],
  [],
  []]
def xCT : xTC := [[(9, 0, 1, 2, 0), (15, 5, 0, 2, 0)],
  [(3, 4, 0, 1, 0), (63, 3, 0, 5, 0), (71, 0, 219, 1, 0), (77, 1, 7, 3, 1), (81, 0, 2, 2, 0), (87, 0, 0, 3, 0), (91, 1, 10, 2, 1), (95, 1, 9, 2, 1), (99, 1, 12, 2, 1), (102, 1, 13, 2, 1), (109, 5, 0, 2, 0), (114, 1, 11, 2, 1), (117, 1, 6, 1, 1), (121, 1, 15, 2, 1), (124, 1, 18, 3, 1), (128, 6, 0, 2, 0), (131, 1, 8, 1, 1)],
  [(3, 4, 0, 1, 0), (58, 3, 0, 5, 0), (64, 0, 116, 3, 0), (68, 0, 0, 3, 0), (74, 0, 2, 2, 0), (78, 1, 29, 2, 2), (81, 0, 3, 2, 0), (84, 1, 33, 3, 2), (88, 1, 30, 1, 2), (92, 1, 28, 3, 2), (95, 1, 31, 2, 2), (98, 0, 219, 1, 0)],
  [(3, 4, 0, 1, 0), (21, 0, 116, 3, 0), (25, 1, 43, 2, 3), (29, 3, 0, 5, 0)],
  [(5, 4, 0, 1, 0), (31, 1, 60, 1, 4), (34, 1, 63, 2, 4), (38, 1, 54, 2, 4), (51, 0, 116, 3, 0), (55, 1, 55, 2, 4), (58, 1, 57, 2, 4), (61, 1, 58, 2, 4), (69, 1, 27, 2, 2), (76, 1, 56, 6, 4), (86, 1, 59, 3, 4), (99, 0, 62, 1, 0), (102, 1, 61, 2, 4), (105, 1, 64, 3, 4), (109, 1, 66, 3, 4), (112, 6, 0, 2, 0), (117, 0, 67, 1, 0), (121, 1, 65, 4, 4), (125, 1, 220, 1, 101), (131, 1, 221, 2, 101)],
  [(3, 4, 0, 1, 0), (15, 2, 228, 1, 2), (28, 2, 227, 1, 1), (35, 2, 230, 1, 4), (42, 2, 229, 1, 3), (51, 0, 116, 3, 0), (55, 1, 115, 2, 5), (63, 1, 27, 2, 2), (66, 1, 25, 2, 2), (82, 1, 29, 2, 2), (85, 1, 31, 2, 2), (88, 1, 30, 1, 2), (92, 1, 28, 3, 2), (96, 0, 117, 3, 0), (100, 1, 26, 3, 2), (113, 1, 33, 3, 2), (116, 1, 35, 2, 2), (122, 1, 36, 1, 2), (125, 1, 37, 1, 2), (137, 1, 34, 1, 2), (140, 1, 38, 1, 2), (143, 1, 5, 2, 1), (147, 1, 8, 1, 1), (151, 1, 11, 2, 1), (154, 1, 6, 1, 1), (157, 1, 14, 2, 1), (164, 1, 16, 1, 1), (167, 1, 17, 1, 1), (170, 1, 32, 2, 2), (173, 1, 19, 2, 1), (176, 1, 20, 2, 1), (182, 1, 18, 3, 1), (185, 1, 21, 1, 1), (188, 1, 22, 2, 1), (191, 1, 23, 1, 1), (200, 0, 0, 3, 0), (206, 1, 121, 2, 5), (210, 0, 120, 1, 0), (217, 1, 39, 1, 2), (220, 1, 119, 2, 5), (223, 0, 219, 1, 0), (228, 0, 118, 2, 0), (234, 1, 50, 2, 4), (237, 1, 51, 3, 4), (240, 1, 52, 1, 4), (242, 1, 24, 2, 2), (245, 1, 53, 2, 4), (252, 0, 4, 2, 0), (255, 1, 43, 2, 3), (258, 1, 45, 4, 3), (261, 1, 44, 2, 3), (267, 1, 47, 4, 3), (274, 1, 48, 4, 3), (277, 1, 49, 6, 3), (281, 6, 0, 2, 0), (286, 1, 46, 3, 3), (289, 1, 122, 2, 5), (292, 1, 40, 1, 2), (295, 1, 41, 1, 2), (301, 1, 42, 1, 2), (307, 7, 0, 2, 0)],
  [(1, 4, 0, 1, 0), (60, 0, 124, 3, 0), (64, 0, 125, 2, 0), (68, 1, 129, 3, 6), (71, 0, 132, 3, 0), (75, 1, 134, 2, 6), (79, 1, 137, 2, 6), (82, 0, 127, 2, 0), (86, 1, 140, 3, 6), (89, 1, 139, 1, 6), (93, 1, 136, 2, 6), (96, 1, 133, 3, 6), (99, 1, 135, 2, 6), (102, 1, 130, 4, 6), (106, 1, 123, 2, 6), (109, 1, 143, 2, 6), (113, 1, 128, 2, 6), (117, 1, 131, 1, 6), (120, 0, 148, 1, 0), (123, 1, 138, 1, 6), (126, 1, 142, 2, 6), (129, 1, 141, 2, 6), (132, 1, 155, 1, 6), (136, 1, 157, 4, 6), (139, 1, 158, 2, 6), (146, 1, 159, 2, 6), (149, 1, 162, 1, 6), (152, 0, 126, 1, 0), (155, 1, 166, 2, 6), (161, 1, 172, 1, 6), (164, 1, 176, 3, 6), (169, 1, 179, 2, 6), (172, 0, 180, 1, 0), (176, 1, 181, 2, 6), (180, 1, 184, 1, 6), (199, 0, 192, 1, 0), (208, 0, 193, 1, 0), (215, 1, 194, 1, 6), (218, 1, 195, 2, 6), (222, 1, 196, 3, 6), (225, 1, 197, 2, 6), (228, 1, 198, 1, 6), (232, 1, 188, 1, 6), (235, 1, 199, 1, 6), (238, 1, 189, 1, 6), (241, 0, 201, 1, 0), (244, 0, 204, 1, 0), (247, 0, 203, 1, 0), (250, 1, 205, 2, 6), (256, 1, 211, 2, 6)],
  [(9, 2, 231, 1, 5), (12, 2, 232, 1, 6), (13, 1, 68, 2, 5), (17, 1, 144, 2, 6), (18, 1, 69, 3, 5), (22, 1, 145, 3, 6), (23, 1, 70, 4, 5), (27, 1, 146, 4, 6), (28, 1, 71, 4, 5), (31, 1, 147, 4, 6), (32, 1, 72, 3, 5), (35, 1, 149, 3, 6), (36, 1, 73, 3, 5), (39, 1, 150, 3, 6), (40, 1, 74, 2, 5), (43, 1, 151, 2, 6), (44, 1, 75, 1, 5), (48, 1, 152, 1, 6), (49, 1, 76, 1, 5), (52, 1, 153, 1, 6), (53, 1, 77, 2, 5), (56, 1, 154, 2, 6), (57, 1, 78, 2, 5), (60, 1, 156, 2, 6), (61, 1, 79, 2, 5), (64, 1, 160, 2, 6), (65, 1, 80, 3, 5), (68, 1, 161, 3, 6), (69, 1, 81, 1, 5), (72, 1, 163, 1, 6), (73, 1, 82, 1, 5), (76, 1, 164, 1, 6), (77, 1, 83, 3, 5), (80, 1, 165, 3, 6), (81, 1, 84, 2, 5), (84, 1, 167, 2, 6), (85, 1, 85, 1, 5), (88, 1, 168, 1, 6), (89, 1, 86, 1, 5), (92, 1, 169, 1, 6), (93, 1, 87, 3, 5), (96, 1, 170, 3, 6), (97, 1, 88, 2, 5), (100, 1, 171, 2, 6), (101, 1, 89, 1, 5), (104, 1, 173, 1, 6), (105, 1, 90, 1, 5), (108, 1, 174, 1, 6), (109, 1, 91, 1, 5), (112, 1, 175, 1, 6), (113, 1, 92, 4, 5), (116, 1, 177, 4, 6), (117, 1, 93, 4, 5), (120, 1, 178, 4, 6), (121, 1, 94, 3, 5), (125, 1, 182, 3, 6), (126, 1, 95, 1, 5), (129, 1, 183, 1, 6), (130, 1, 96, 2, 5), (133, 1, 185, 2, 6), (134, 1, 97, 1, 5), (137, 1, 186, 1, 6), (138, 1, 98, 2, 5), (141, 1, 187, 2, 6), (142, 1, 99, 3, 5), (145, 1, 190, 3, 6), (146, 1, 100, 1, 5), (149, 1, 191, 1, 6), (150, 1, 101, 1, 5), (153, 1, 200, 1, 6), (154, 1, 102, 3, 5), (157, 1, 202, 3, 6), (158, 1, 103, 3, 5), (161, 1, 206, 3, 6), (162, 1, 104, 4, 5), (165, 1, 207, 4, 6), (166, 1, 105, 4, 5), (169, 1, 208, 4, 6), (170, 1, 106, 6, 5), (174, 1, 209, 6, 6), (175, 1, 107, 2, 5), (178, 1, 210, 2, 6), (179, 1, 108, 2, 5), (182, 1, 212, 2, 6), (183, 1, 109, 2, 5), (186, 1, 213, 2, 6), (187, 1, 110, 1, 5), (190, 1, 214, 1, 6), (191, 1, 111, 1, 5), (194, 1, 215, 1, 6), (195, 1, 112, 1, 5), (198, 1, 216, 1, 6), (199, 1, 113, 2, 5), (202, 1, 217, 2, 6), (203, 1, 114, 2, 5), (206, 1, 218, 2, 6)],
  [],
  [],
  [(335, 1, 222, 1, 101), (492, 1, 223, 1, 101), (495, 0, 225, 2, 0), (1059, 0, 226, 3, 0)],
  [(9, 0, 224, 2, 0)],
  []]
def xKT : xTK := [[],
  [(108, .int (-2147483648)), (127, .int 2147483647)],
  [(97, .int 1103515245)],
  [],
  [(135, .retAddr 0), (137, .retAddr 1), (139, .retAddr 2), (141, .retAddr 3), (143, .retAddr 4), (145, .retAddr 5), (147, .retAddr 6), (149, .retAddr 7), (151, .retAddr 8), (153, .retAddr 9), (155, .retAddr 10), (157, .retAddr 11), (159, .retAddr 12), (161, .retAddr 13), (163, .retAddr 14), (164, .retAddr 15)],
  [(304, .int (-1000001)), (213, .long 2), (215, .long 5), (305, .long 10)],
  [(59, .int (-1000001)), (135, .int (-99999999)), (179, .int 1103515245), (167, .long 10), (202, .long 9999999999999), (204, .long 27), (206, .long 96), (211, .long 999), (213, .long 48)],
  [],
  [(265, .int 1431655765), (266, .int 858993459), (267, .int 252645135)],
  [],
  [],
  [],
  []]
def xGT : xTK := [[(20, .ref 1001)],
  [],
  [],
  [],
  [(90, .ref 1000)],
  [(104, .ref 1000)],
  [],
  [],
  [],
  [],
  [(38, .int 1), (1053, .null)],
  [],
  []]
def xNT : xTN := [[],
  [],
  [],
  [],
  [],
  [(13, 1, [0, 2, 2, 2, 2, 2, 0, 0, 0, 0, 2, 2, 2, 0, 2]), (26, 0, [2, 2, 2, 2, 2, 2, 2, 0, 2, 2, 0, 0, 0, 0, 0, 0]), (33, 3, [2, 0, 2, 2, 2, 2, 0, 0, 0, 0]), (40, 2, [2, 2, 2])],
  [],
  [(7, 4, [2, 2, 2, 2, 2, 2, 2, 0]), (10, 5, [2, 2, 2, 0, 2, 2, 2, 0, 2, 2, 0, 2, 0, 0, 0, 0, 1, 2, 2, 2, 2, 2, 2, 2, 0])],
  [],
  [],
  [],
  [],
  []]
def xstats : List (List Int32) := [[9, 10, 99, 99, 999], [0, 0, 0, 2, 3, 0, 5]]
def xstrs : List (List Int32) := [[98, 111, 119], [114, 111, 119, 101, 100], [114, 105, 115, 105, 110, 103], [102, 97, 108, 108, 105, 110, 103], [108, 97, 115, 116], [115, 104, 105, 101, 108, 100, 101, 100], [99, 104, 105, 108, 100], [116, 105, 114, 101, 115], [115, 105, 108, 101, 110, 116], [103, 97, 105, 110], [108, 111, 115, 115], [116, 114, 97, 105, 110], [99, 111, 110, 116, 114, 97, 99, 116], [108, 111, 118, 101], [115, 101, 99, 111, 110, 100, 115], [97, 104, 101, 97, 100]]
def XP : xP := (xMT, xFT, xCT, xKT, xGT, xNT, xstats, xstrs, 5217)
def SH0 : xS := [.inl (4, [4, 5, 15, 25, 35, 45, 51, 0]),
  .inr (false, 7),
  .inl (1, [0, 6, 7, 8, 9, 10, 0, 0, 0, 0, 11, 12, 13, 0, 14]),
  .inr (false, 9),
  .inr (false, 9),
  .inr (false, 9),
  .inr (false, 9),
  .inr (false, 5),
  .inr (false, 9),
  .inr (false, 9),
  .inr (false, 9),
  .inr (false, 10),
  .inl (1, [0, 16, 17, 18, 19, 20, 0, 0, 0, 0, 21, 22, 23, 0, 24]),
  .inr (false, 9),
  .inr (false, 9),
  .inr (false, 9),
  .inr (false, 9),
  .inr (false, 5),
  .inr (false, 9),
  .inr (false, 9),
  .inr (false, 9),
  .inr (false, 10),
  .inl (1, [0, 26, 27, 28, 29, 30, 0, 0, 0, 0, 31, 32, 33, 0, 34]),
  .inr (false, 9),
  .inr (false, 9),
  .inr (false, 9),
  .inr (false, 9),
  .inr (false, 5),
  .inr (false, 9),
  .inr (false, 9),
  .inr (false, 9),
  .inr (false, 10),
  .inl (0, [36, 37, 38, 39, 40, 41, 42, 0, 43, 44, 0, 0, 0, 0, 0, 0]),
  .inr (false, 9),
  .inr (false, 9),
  .inr (false, 9),
  .inr (false, 90),
  .inr (false, 4608),
  .inr (false, 9),
  .inr (false, 9),
  .inr (false, 512),
  .inr (false, 9),
  .inl (3, [46, 0, 47, 48, 49, 50, 0, 0, 0, 0]),
  .inr (false, 120),
  .inr (false, 121),
  .inr (false, 121),
  .inr (false, 121),
  .inr (false, 121),
  .inl (2, [52, 53, 54]),
  .inr (false, 4),
  .inr (false, 4),
  .inr (false, 160),
  .inl (5, [56, 57, 58, 0, 59, 60, 61, 0, 62, 63, 0, 64, 0, 0, 0, 0, 1, 65, 66, 67, 68, 69, 70, 71, 0]),
  .inr (false, 83),
  .inr (false, 83),
  .inr (false, 83),
  .inr (false, 7),
  .inr (false, 5120),
  .inr (false, 9),
  .inr (false, 512),
  .inr (false, 512),
  .inr (false, 120),
  .inr (true, 56),
  .inr (true, 24),
  .inr (true, 48),
  .inr (false, 4),
  .inr (false, 4),
  .inr (false, 160),
  .inr (false, 40)]
def FU : Nat := 5000
def xbl (b : UInt32) : Nat := (xstrs.getD (b.toNat % xstrs.length) []).length
def xbc (b : UInt32) (j : Nat) : Int32 := (xstrs.getD (b.toNat % xstrs.length) []).getD j 0
def xstat (k j : Nat) : Int32 := (xstats.getD k []).getD j 0
theorem x_ite {α : Type} {p : Prop} {ip : Decidable p} {a : Option α} {r : α} (h : (if p then a else none) = some r) : p ∧ a = some r := by
  by_cases hp : p
  · exact ⟨hp, by rw [if_pos hp] at h; exact h⟩
  · rw [if_neg hp] at h; cases h
theorem x_iteN {α : Type} {p : Prop} {ip : Decidable p} {a : Option α} {r : α} (h : (if p then none else a) = some r) : ¬ p ∧ a = some r := by
  by_cases hp : p
  · rw [if_pos hp] at h; cases h
  · exact ⟨hp, by rw [if_neg hp] at h; exact h⟩
theorem x_br {α : Type} {p : Prop} {ip : Decidable p} {a b r : α} (h : (if p then a else b) = r) : (p ∧ a = r) ∨ (¬ p ∧ b = r) := by
  by_cases hp : p
  · exact Or.inl ⟨hp, by rw [if_pos hp] at h; exact h⟩
  · exact Or.inr ⟨hp, by rw [if_neg hp] at h; exact h⟩
theorem x_bind {α β : Type} {o : Option α} {f : α → Option β} {r : β} (h : Option.bind o f = some r) : ∃ a, o = some a ∧ f a = some r := by
  cases o with
  | none => cases h
  | some a => exact ⟨a, rfl, h⟩
theorem xb01 (b : Bool) : xb b = 0 ∨ xb b = 1 := by cases b <;> simp [xb]
theorem E_itt {P : xP} {X : xX} {d : Nat} {M : xT} {σ : xM} {p : Prop} {ip : Decidable p} (hp : p) {a b : Nat} {c : xL × List Value × xS × xO × Int64} {out : xOut} (k : E P X d M σ (a, c) out) : E P X d M σ ((if p then a else b), c) out := by rw [if_pos hp]; exact k
theorem E_itf {P : xP} {X : xX} {d : Nat} {M : xT} {σ : xM} {p : Prop} {ip : Decidable p} (hp : ¬ p) {a b : Nat} {c : xL × List Value × xS × xO × Int64} {out : xOut} (k : E P X d M σ (b, c) out) : E P X d M σ ((if p then a else b), c) out := by rw [if_neg hp]; exact k
theorem E_retd {P : xP} {X : xX} {d : Nat} {M : xT} {σ : xM} {c : xC} {x : Int32} {sh : xS} {ol : xO} {lg : Int64} (h : xact P M X σ c = if x = 0 ∨ x = 1 then some (.inl (some (.int x), sh, ol, lg)) else none) (hp : x = 0 ∨ x = 1) : E P X d M σ c (some (.int (xb (decide (x = 1)))), sh, ol, lg) := by
  rw [if_pos hp] at h
  refine E_ret ?_
  rw [h]
  rcases hp with rfl | rfl <;> rfl
end
section
/-! NAMES: the kit's starting texts (SKELETON part A; NAMES: names of classes, fields, methods) -/
-- ===== PART A: goes FIRST, ahead of the names: the tables' words, and 'selects' of the private methods out of them =====
/-- a private method of a class that the tables say can be made, by its rows of tables_1 -/
def lw_okq (q : MethodName × Nat) : Prop := (q.1.cls ≠ "java/lang/invoke/MethodHandle" ∧ q.1.cls ≠ "java/lang/invoke/VarHandle") ∧ Cond.instantiable q.1.cls q.2 ∈ tables_1 ∧ Cond.privateMethod q.1 ∈ tables_1 ∧ Cond.instanceMethod q.1 ∈ tables_1
theorem lw_p0 : lw_okq (⟨"WhoBowsLast", "finding", "(I)I"⟩, 8) := ⟨⟨by decide +kernel, by decide +kernel⟩, List.mem_of_getElem? (i := 16) (by decide +kernel), List.mem_of_getElem? (i := 249) (by decide +kernel), List.mem_of_getElem? (i := 250) (by decide +kernel)⟩
theorem lw_p1 : lw_okq (⟨"WhoBowsLast$Orders", "canFollow", "(II)Z"⟩, 16) := ⟨⟨by decide +kernel, by decide +kernel⟩, List.mem_of_getElem? (i := 102) (by decide +kernel), List.mem_of_getElem? (i := 387) (by decide +kernel), List.mem_of_getElem? (i := 388) (by decide +kernel)⟩
theorem lw_p2 : lw_okq (⟨"WhoBowsLast$Orders", "score", "(I)V"⟩, 16) := ⟨⟨by decide +kernel, by decide +kernel⟩, List.mem_of_getElem? (i := 102) (by decide +kernel), List.mem_of_getElem? (i := 395) (by decide +kernel), List.mem_of_getElem? (i := 396) (by decide +kernel)⟩
theorem lw_p3 : lw_okq (⟨"WhoBowsLast$Orders", "canStand", "(I)Z"⟩, 16) := ⟨⟨by decide +kernel, by decide +kernel⟩, List.mem_of_getElem? (i := 102) (by decide +kernel), List.mem_of_getElem? (i := 401) (by decide +kernel), List.mem_of_getElem? (i := 402) (by decide +kernel)⟩
theorem lw_p4 : lw_okq (⟨"WhoBowsLast$Orders", "findFollowers", "(I)V"⟩, 16) := ⟨⟨by decide +kernel, by decide +kernel⟩, List.mem_of_getElem? (i := 102) (by decide +kernel), List.mem_of_getElem? (i := 405) (by decide +kernel), List.mem_of_getElem? (i := 406) (by decide +kernel)⟩
theorem lw_p5 : lw_okq (⟨"WhoBowsLast$Orders", "mostBehind", "(I)I"⟩, 16) := ⟨⟨by decide +kernel, by decide +kernel⟩, List.mem_of_getElem? (i := 102) (by decide +kernel), List.mem_of_getElem? (i := 409) (by decide +kernel), List.mem_of_getElem? (i := 410) (by decide +kernel)⟩
theorem lw_p6 : lw_okq (⟨"WhoBowsLast$Orders", "firstBehind", "(I)I"⟩, 16) := ⟨⟨by decide +kernel, by decide +kernel⟩, List.mem_of_getElem? (i := 102) (by decide +kernel), List.mem_of_getElem? (i := 435) (by decide +kernel), List.mem_of_getElem? (i := 436) (by decide +kernel)⟩
theorem lw_p7 : lw_okq (⟨"WhoBowsLast", "worth", "(I)J"⟩, 8) := ⟨⟨by decide +kernel, by decide +kernel⟩, List.mem_of_getElem? (i := 16) (by decide +kernel), List.mem_of_getElem? (i := 538) (by decide +kernel), List.mem_of_getElem? (i := 539) (by decide +kernel)⟩
theorem lw_p8 : lw_okq (⟨"WhoBowsLast", "gainAt", "(I)I"⟩, 8) := ⟨⟨by decide +kernel, by decide +kernel⟩, List.mem_of_getElem? (i := 16) (by decide +kernel), List.mem_of_getElem? (i := 543) (by decide +kernel), List.mem_of_getElem? (i := 544) (by decide +kernel)⟩
theorem lw_p9 : lw_okq (⟨"WhoBowsLast$Tape", "cut", "()V"⟩, 10) := ⟨⟨by decide +kernel, by decide +kernel⟩, List.mem_of_getElem? (i := 161) (by decide +kernel), List.mem_of_getElem? (i := 614) (by decide +kernel), List.mem_of_getElem? (i := 615) (by decide +kernel)⟩
theorem lw_p10 : lw_okq (⟨"WhoBowsLast$Tape", "valueOf", "(I)I"⟩, 10) := ⟨⟨by decide +kernel, by decide +kernel⟩, List.mem_of_getElem? (i := 161) (by decide +kernel), List.mem_of_getElem? (i := 621) (by decide +kernel), List.mem_of_getElem? (i := 622) (by decide +kernel)⟩
theorem lw_p11 : lw_okq (⟨"WhoBowsLast$Tape", "wordAt", "(II)I"⟩, 10) := ⟨⟨by decide +kernel, by decide +kernel⟩, List.mem_of_getElem? (i := 161) (by decide +kernel), List.mem_of_getElem? (i := 625) (by decide +kernel), List.mem_of_getElem? (i := 626) (by decide +kernel)⟩
theorem lw_p12 : lw_okq (⟨"WhoBowsLast$Tape", "isWord", "(Ljava/lang/String;II)Z"⟩, 10) := ⟨⟨by decide +kernel, by decide +kernel⟩, List.mem_of_getElem? (i := 161) (by decide +kernel), List.mem_of_getElem? (i := 648) (by decide +kernel), List.mem_of_getElem? (i := 649) (by decide +kernel)⟩
theorem lw_p13 : lw_okq (⟨"WhoBowsLast$Tape", "numberAt", "(II)I"⟩, 10) := ⟨⟨by decide +kernel, by decide +kernel⟩, List.mem_of_getElem? (i := 161) (by decide +kernel), List.mem_of_getElem? (i := 700) (by decide +kernel), List.mem_of_getElem? (i := 701) (by decide +kernel)⟩
theorem lw_p14 : lw_okq (⟨"WhoBowsLast$Tape", "take", "(I)V"⟩, 10) := ⟨⟨by decide +kernel, by decide +kernel⟩, List.mem_of_getElem? (i := 161) (by decide +kernel), List.mem_of_getElem? (i := 705) (by decide +kernel), List.mem_of_getElem? (i := 706) (by decide +kernel)⟩
theorem lw_p15 : lw_okq (⟨"WhoBowsLast$Tape", "readItem", "(LWhoBowsLast$Scene;)Z"⟩, 10) := ⟨⟨by decide +kernel, by decide +kernel⟩, List.mem_of_getElem? (i := 161) (by decide +kernel), List.mem_of_getElem? (i := 709) (by decide +kernel), List.mem_of_getElem? (i := 710) (by decide +kernel)⟩
def lw_privs_1 : List (MethodName × Nat) := [(⟨"WhoBowsLast", "finding", "(I)I"⟩, 8), (⟨"WhoBowsLast$Orders", "canFollow", "(II)Z"⟩, 16), (⟨"WhoBowsLast$Orders", "score", "(I)V"⟩, 16), (⟨"WhoBowsLast$Orders", "canStand", "(I)Z"⟩, 16), (⟨"WhoBowsLast$Orders", "findFollowers", "(I)V"⟩, 16), (⟨"WhoBowsLast$Orders", "mostBehind", "(I)I"⟩, 16), (⟨"WhoBowsLast$Orders", "firstBehind", "(I)I"⟩, 16), (⟨"WhoBowsLast", "worth", "(I)J"⟩, 8), (⟨"WhoBowsLast", "gainAt", "(I)I"⟩, 8), (⟨"WhoBowsLast$Tape", "cut", "()V"⟩, 10), (⟨"WhoBowsLast$Tape", "valueOf", "(I)I"⟩, 10), (⟨"WhoBowsLast$Tape", "wordAt", "(II)I"⟩, 10), (⟨"WhoBowsLast$Tape", "isWord", "(Ljava/lang/String;II)Z"⟩, 10), (⟨"WhoBowsLast$Tape", "numberAt", "(II)I"⟩, 10), (⟨"WhoBowsLast$Tape", "take", "(I)V"⟩, 10), (⟨"WhoBowsLast$Tape", "readItem", "(LWhoBowsLast$Scene;)Z"⟩, 10)]
theorem lw_r1 : ∀ q ∈ lw_privs_1, lw_okq q := List.forall_mem_cons.mpr ⟨lw_p0, List.forall_mem_cons.mpr ⟨lw_p1, List.forall_mem_cons.mpr ⟨lw_p2, List.forall_mem_cons.mpr ⟨lw_p3, List.forall_mem_cons.mpr ⟨lw_p4, List.forall_mem_cons.mpr ⟨lw_p5, List.forall_mem_cons.mpr ⟨lw_p6, List.forall_mem_cons.mpr ⟨lw_p7, List.forall_mem_cons.mpr ⟨lw_p8, List.forall_mem_cons.mpr ⟨lw_p9, List.forall_mem_cons.mpr ⟨lw_p10, List.forall_mem_cons.mpr ⟨lw_p11, List.forall_mem_cons.mpr ⟨lw_p12, List.forall_mem_cons.mpr ⟨lw_p13, List.forall_mem_cons.mpr ⟨lw_p14, List.forall_mem_cons.mpr ⟨lw_p15, fun _ h => absurd h List.not_mem_nil⟩⟩⟩⟩⟩⟩⟩⟩⟩⟩⟩⟩⟩⟩⟩⟩
theorem lw_p16 : lw_okq (⟨"WhoBowsLast$Tape", "readBow", "(LWhoBowsLast$Scene;)Z"⟩, 10) := ⟨⟨by decide +kernel, by decide +kernel⟩, List.mem_of_getElem? (i := 161) (by decide +kernel), List.mem_of_getElem? (i := 714) (by decide +kernel), List.mem_of_getElem? (i := 715) (by decide +kernel)⟩
theorem lw_p17 : lw_okq (⟨"WhoBowsLast$Tape", "readPart", "(III[II)Z"⟩, 10) := ⟨⟨by decide +kernel, by decide +kernel⟩, List.mem_of_getElem? (i := 161) (by decide +kernel), List.mem_of_getElem? (i := 719) (by decide +kernel), List.mem_of_getElem? (i := 720) (by decide +kernel)⟩
theorem lw_p18 : lw_okq (⟨"WhoBowsLast$Tape", "isNumber", "(II)Z"⟩, 10) := ⟨⟨by decide +kernel, by decide +kernel⟩, List.mem_of_getElem? (i := 161) (by decide +kernel), List.mem_of_getElem? (i := 723) (by decide +kernel), List.mem_of_getElem? (i := 724) (by decide +kernel)⟩
theorem lw_p19 : lw_okq (⟨"WhoBowsLast$Tape", "readRule", "(LWhoBowsLast$Scene;)Z"⟩, 10) := ⟨⟨by decide +kernel, by decide +kernel⟩, List.mem_of_getElem? (i := 161) (by decide +kernel), List.mem_of_getElem? (i := 727) (by decide +kernel), List.mem_of_getElem? (i := 728) (by decide +kernel)⟩
theorem lw_p20 : lw_okq (⟨"WhoBowsLast$Tape", "readContract", "(LWhoBowsLast$Scene;)Z"⟩, 10) := ⟨⟨by decide +kernel, by decide +kernel⟩, List.mem_of_getElem? (i := 161) (by decide +kernel), List.mem_of_getElem? (i := 732) (by decide +kernel), List.mem_of_getElem? (i := 733) (by decide +kernel)⟩
theorem lw_p21 : lw_okq (⟨"WhoBowsLast", "firstThatCannot", "(I)I"⟩, 8) := ⟨⟨by decide +kernel, by decide +kernel⟩, List.mem_of_getElem? (i := 16) (by decide +kernel), List.mem_of_getElem? (i := 801) (by decide +kernel), List.mem_of_getElem? (i := 802) (by decide +kernel)⟩
theorem lw_p22 : lw_okq (⟨"WhoBowsLastModel", "no", "(I)I"⟩, 25) := ⟨⟨by decide +kernel, by decide +kernel⟩, List.mem_of_getElem? (i := 842) (by decide +kernel), List.mem_of_getElem? (i := 932) (by decide +kernel), List.mem_of_getElem? (i := 933) (by decide +kernel)⟩
theorem lw_p23 : lw_okq (⟨"WhoBowsLastModel", "addsBow", "(I)V"⟩, 25) := ⟨⟨by decide +kernel, by decide +kernel⟩, List.mem_of_getElem? (i := 842) (by decide +kernel), List.mem_of_getElem? (i := 937) (by decide +kernel), List.mem_of_getElem? (i := 938) (by decide +kernel)⟩
theorem lw_p24 : lw_okq (⟨"WhoBowsLastModel", "puts", "(III)V"⟩, 25) := ⟨⟨by decide +kernel, by decide +kernel⟩, List.mem_of_getElem? (i := 842) (by decide +kernel), List.mem_of_getElem? (i := 941) (by decide +kernel), List.mem_of_getElem? (i := 942) (by decide +kernel)⟩
theorem lw_p25 : lw_okq (⟨"WhoBowsLastModel", "isBow", "(I)Z"⟩, 25) := ⟨⟨by decide +kernel, by decide +kernel⟩, List.mem_of_getElem? (i := 842) (by decide +kernel), List.mem_of_getElem? (i := 949) (by decide +kernel), List.mem_of_getElem? (i := 950) (by decide +kernel)⟩
theorem lw_p26 : lw_okq (⟨"WhoBowsLastModel", "get", "(II)I"⟩, 25) := ⟨⟨by decide +kernel, by decide +kernel⟩, List.mem_of_getElem? (i := 842) (by decide +kernel), List.mem_of_getElem? (i := 953) (by decide +kernel), List.mem_of_getElem? (i := 954) (by decide +kernel)⟩
theorem lw_p27 : lw_okq (⟨"WhoBowsLastModel", "leaves", "(I)I"⟩, 25) := ⟨⟨by decide +kernel, by decide +kernel⟩, List.mem_of_getElem? (i := 842) (by decide +kernel), List.mem_of_getElem? (i := 957) (by decide +kernel), List.mem_of_getElem? (i := 958) (by decide +kernel)⟩
theorem lw_p28 : lw_okq (⟨"WhoBowsLastModel", "secondsOf", "(I)I"⟩, 25) := ⟨⟨by decide +kernel, by decide +kernel⟩, List.mem_of_getElem? (i := 842) (by decide +kernel), List.mem_of_getElem? (i := 961) (by decide +kernel), List.mem_of_getElem? (i := 962) (by decide +kernel)⟩
theorem lw_p29 : lw_okq (⟨"WhoBowsLastModel", "latest", "()I"⟩, 25) := ⟨⟨by decide +kernel, by decide +kernel⟩, List.mem_of_getElem? (i := 842) (by decide +kernel), List.mem_of_getElem? (i := 968) (by decide +kernel), List.mem_of_getElem? (i := 969) (by decide +kernel)⟩
theorem lw_p30 : lw_okq (⟨"WhoBowsLastModel", "whoAt", "(I)I"⟩, 25) := ⟨⟨by decide +kernel, by decide +kernel⟩, List.mem_of_getElem? (i := 842) (by decide +kernel), List.mem_of_getElem? (i := 972) (by decide +kernel), List.mem_of_getElem? (i := 973) (by decide +kernel)⟩
theorem lw_p31 : lw_okq (⟨"WhoBowsLastModel", "leftBy", "(I)I"⟩, 25) := ⟨⟨by decide +kernel, by decide +kernel⟩, List.mem_of_getElem? (i := 842) (by decide +kernel), List.mem_of_getElem? (i := 976) (by decide +kernel), List.mem_of_getElem? (i := 977) (by decide +kernel)⟩
def lw_privs_2 : List (MethodName × Nat) := [(⟨"WhoBowsLast$Tape", "readBow", "(LWhoBowsLast$Scene;)Z"⟩, 10), (⟨"WhoBowsLast$Tape", "readPart", "(III[II)Z"⟩, 10), (⟨"WhoBowsLast$Tape", "isNumber", "(II)Z"⟩, 10), (⟨"WhoBowsLast$Tape", "readRule", "(LWhoBowsLast$Scene;)Z"⟩, 10), (⟨"WhoBowsLast$Tape", "readContract", "(LWhoBowsLast$Scene;)Z"⟩, 10), (⟨"WhoBowsLast", "firstThatCannot", "(I)I"⟩, 8), (⟨"WhoBowsLastModel", "no", "(I)I"⟩, 25), (⟨"WhoBowsLastModel", "addsBow", "(I)V"⟩, 25), (⟨"WhoBowsLastModel", "puts", "(III)V"⟩, 25), (⟨"WhoBowsLastModel", "isBow", "(I)Z"⟩, 25), (⟨"WhoBowsLastModel", "get", "(II)I"⟩, 25), (⟨"WhoBowsLastModel", "leaves", "(I)I"⟩, 25), (⟨"WhoBowsLastModel", "secondsOf", "(I)I"⟩, 25), (⟨"WhoBowsLastModel", "latest", "()I"⟩, 25), (⟨"WhoBowsLastModel", "whoAt", "(I)I"⟩, 25), (⟨"WhoBowsLastModel", "leftBy", "(I)I"⟩, 25)]
theorem lw_r2 : ∀ q ∈ lw_privs_2, lw_okq q := List.forall_mem_cons.mpr ⟨lw_p16, List.forall_mem_cons.mpr ⟨lw_p17, List.forall_mem_cons.mpr ⟨lw_p18, List.forall_mem_cons.mpr ⟨lw_p19, List.forall_mem_cons.mpr ⟨lw_p20, List.forall_mem_cons.mpr ⟨lw_p21, List.forall_mem_cons.mpr ⟨lw_p22, List.forall_mem_cons.mpr ⟨lw_p23, List.forall_mem_cons.mpr ⟨lw_p24, List.forall_mem_cons.mpr ⟨lw_p25, List.forall_mem_cons.mpr ⟨lw_p26, List.forall_mem_cons.mpr ⟨lw_p27, List.forall_mem_cons.mpr ⟨lw_p28, List.forall_mem_cons.mpr ⟨lw_p29, List.forall_mem_cons.mpr ⟨lw_p30, List.forall_mem_cons.mpr ⟨lw_p31, fun _ h => absurd h List.not_mem_nil⟩⟩⟩⟩⟩⟩⟩⟩⟩⟩⟩⟩⟩⟩⟩⟩
theorem lw_p32 : lw_okq (⟨"WhoBowsLastModel", "noiseBy", "(II)I"⟩, 25) := ⟨⟨by decide +kernel, by decide +kernel⟩, List.mem_of_getElem? (i := 842) (by decide +kernel), List.mem_of_getElem? (i := 980) (by decide +kernel), List.mem_of_getElem? (i := 981) (by decide +kernel)⟩
theorem lw_p33 : lw_okq (⟨"WhoBowsLastModel", "allBows", "()I"⟩, 25) := ⟨⟨by decide +kernel, by decide +kernel⟩, List.mem_of_getElem? (i := 842) (by decide +kernel), List.mem_of_getElem? (i := 991) (by decide +kernel), List.mem_of_getElem? (i := 992) (by decide +kernel)⟩
theorem lw_p34 : lw_okq (⟨"WhoBowsLastModel", "stageSet", "()I"⟩, 25) := ⟨⟨by decide +kernel, by decide +kernel⟩, List.mem_of_getElem? (i := 842) (by decide +kernel), List.mem_of_getElem? (i := 1017) (by decide +kernel), List.mem_of_getElem? (i := 1018) (by decide +kernel)⟩
theorem lw_p35 : lw_okq (⟨"WhoBowsLastModel", "canBehind", "(II)Z"⟩, 25) := ⟨⟨by decide +kernel, by decide +kernel⟩, List.mem_of_getElem? (i := 842) (by decide +kernel), List.mem_of_getElem? (i := 1021) (by decide +kernel), List.mem_of_getElem? (i := 1022) (by decide +kernel)⟩
theorem lw_p36 : lw_okq (⟨"WhoBowsLastModel", "comes", "(I)I"⟩, 25) := ⟨⟨by decide +kernel, by decide +kernel⟩, List.mem_of_getElem? (i := 842) (by decide +kernel), List.mem_of_getElem? (i := 1025) (by decide +kernel), List.mem_of_getElem? (i := 1026) (by decide +kernel)⟩
theorem lw_p37 : lw_okq (⟨"WhoBowsLastModel", "canSet", "(I)I"⟩, 25) := ⟨⟨by decide +kernel, by decide +kernel⟩, List.mem_of_getElem? (i := 842) (by decide +kernel), List.mem_of_getElem? (i := 1045) (by decide +kernel), List.mem_of_getElem? (i := 1046) (by decide +kernel)⟩
theorem lw_p38 : lw_okq (⟨"WhoBowsLastModel", "fallsOfStage", "()I"⟩, 25) := ⟨⟨by decide +kernel, by decide +kernel⟩, List.mem_of_getElem? (i := 842) (by decide +kernel), List.mem_of_getElem? (i := 1049) (by decide +kernel), List.mem_of_getElem? (i := 1050) (by decide +kernel)⟩
theorem lw_p39 : lw_okq (⟨"WhoBowsLastModel", "findsBest", "(I)I"⟩, 25) := ⟨⟨by decide +kernel, by decide +kernel⟩, List.mem_of_getElem? (i := 842) (by decide +kernel), List.mem_of_getElem? (i := 1057) (by decide +kernel), List.mem_of_getElem? (i := 1058) (by decide +kernel)⟩
theorem lw_p40 : lw_okq (⟨"WhoBowsLastModel", "brings", "(III)I"⟩, 25) := ⟨⟨by decide +kernel, by decide +kernel⟩, List.mem_of_getElem? (i := 842) (by decide +kernel), List.mem_of_getElem? (i := 1062) (by decide +kernel), List.mem_of_getElem? (i := 1063) (by decide +kernel)⟩
theorem lw_p41 : lw_okq (⟨"WhoBowsLastModel", "findsRow", "(I)Z"⟩, 25) := ⟨⟨by decide +kernel, by decide +kernel⟩, List.mem_of_getElem? (i := 842) (by decide +kernel), List.mem_of_getElem? (i := 1070) (by decide +kernel), List.mem_of_getElem? (i := 1071) (by decide +kernel)⟩
theorem lw_p42 : lw_okq (⟨"WhoBowsLastModel", "countsWays", "()I"⟩, 25) := ⟨⟨by decide +kernel, by decide +kernel⟩, List.mem_of_getElem? (i := 842) (by decide +kernel), List.mem_of_getElem? (i := 1078) (by decide +kernel), List.mem_of_getElem? (i := 1079) (by decide +kernel)⟩
theorem lw_p43 : lw_okq (⟨"WhoBowsLastModel", "allAhead", "(I)I"⟩, 25) := ⟨⟨by decide +kernel, by decide +kernel⟩, List.mem_of_getElem? (i := 842) (by decide +kernel), List.mem_of_getElem? (i := 1097) (by decide +kernel), List.mem_of_getElem? (i := 1098) (by decide +kernel)⟩
theorem lw_p44 : lw_okq (⟨"WhoBowsLastModel", "findsFreed", "()I"⟩, 25) := ⟨⟨by decide +kernel, by decide +kernel⟩, List.mem_of_getElem? (i := 842) (by decide +kernel), List.mem_of_getElem? (i := 1121) (by decide +kernel), List.mem_of_getElem? (i := 1122) (by decide +kernel)⟩
theorem lw_p45 : lw_okq (⟨"WhoBowsLastModel", "isAsked", "(II)Z"⟩, 25) := ⟨⟨by decide +kernel, by decide +kernel⟩, List.mem_of_getElem? (i := 842) (by decide +kernel), List.mem_of_getElem? (i := 1137) (by decide +kernel), List.mem_of_getElem? (i := 1138) (by decide +kernel)⟩
theorem lw_p46 : lw_okq (⟨"WhoBowsLastModel", "worthFrom", "(I)J"⟩, 25) := ⟨⟨by decide +kernel, by decide +kernel⟩, List.mem_of_getElem? (i := 842) (by decide +kernel), List.mem_of_getElem? (i := 1149) (by decide +kernel), List.mem_of_getElem? (i := 1150) (by decide +kernel)⟩
theorem lw_p47 : lw_okq (⟨"WhoBowsLastModel", "silentAt", "(I)I"⟩, 25) := ⟨⟨by decide +kernel, by decide +kernel⟩, List.mem_of_getElem? (i := 842) (by decide +kernel), List.mem_of_getElem? (i := 1154) (by decide +kernel), List.mem_of_getElem? (i := 1155) (by decide +kernel)⟩
def lw_privs_3 : List (MethodName × Nat) := [(⟨"WhoBowsLastModel", "noiseBy", "(II)I"⟩, 25), (⟨"WhoBowsLastModel", "allBows", "()I"⟩, 25), (⟨"WhoBowsLastModel", "stageSet", "()I"⟩, 25), (⟨"WhoBowsLastModel", "canBehind", "(II)Z"⟩, 25), (⟨"WhoBowsLastModel", "comes", "(I)I"⟩, 25), (⟨"WhoBowsLastModel", "canSet", "(I)I"⟩, 25), (⟨"WhoBowsLastModel", "fallsOfStage", "()I"⟩, 25), (⟨"WhoBowsLastModel", "findsBest", "(I)I"⟩, 25), (⟨"WhoBowsLastModel", "brings", "(III)I"⟩, 25), (⟨"WhoBowsLastModel", "findsRow", "(I)Z"⟩, 25), (⟨"WhoBowsLastModel", "countsWays", "()I"⟩, 25), (⟨"WhoBowsLastModel", "allAhead", "(I)I"⟩, 25), (⟨"WhoBowsLastModel", "findsFreed", "()I"⟩, 25), (⟨"WhoBowsLastModel", "isAsked", "(II)Z"⟩, 25), (⟨"WhoBowsLastModel", "worthFrom", "(I)J"⟩, 25), (⟨"WhoBowsLastModel", "silentAt", "(I)I"⟩, 25)]
theorem lw_r3 : ∀ q ∈ lw_privs_3, lw_okq q := List.forall_mem_cons.mpr ⟨lw_p32, List.forall_mem_cons.mpr ⟨lw_p33, List.forall_mem_cons.mpr ⟨lw_p34, List.forall_mem_cons.mpr ⟨lw_p35, List.forall_mem_cons.mpr ⟨lw_p36, List.forall_mem_cons.mpr ⟨lw_p37, List.forall_mem_cons.mpr ⟨lw_p38, List.forall_mem_cons.mpr ⟨lw_p39, List.forall_mem_cons.mpr ⟨lw_p40, List.forall_mem_cons.mpr ⟨lw_p41, List.forall_mem_cons.mpr ⟨lw_p42, List.forall_mem_cons.mpr ⟨lw_p43, List.forall_mem_cons.mpr ⟨lw_p44, List.forall_mem_cons.mpr ⟨lw_p45, List.forall_mem_cons.mpr ⟨lw_p46, List.forall_mem_cons.mpr ⟨lw_p47, fun _ h => absurd h List.not_mem_nil⟩⟩⟩⟩⟩⟩⟩⟩⟩⟩⟩⟩⟩⟩⟩⟩
theorem lw_p48 : lw_okq (⟨"WhoBowsLastModel", "draw", "()I"⟩, 25) := ⟨⟨by decide +kernel, by decide +kernel⟩, List.mem_of_getElem? (i := 842) (by decide +kernel), List.mem_of_getElem? (i := 1169) (by decide +kernel), List.mem_of_getElem? (i := 1170) (by decide +kernel)⟩
theorem lw_p49 : lw_okq (⟨"WhoBowsLastModel", "setsAside", "()V"⟩, 25) := ⟨⟨by decide +kernel, by decide +kernel⟩, List.mem_of_getElem? (i := 842) (by decide +kernel), List.mem_of_getElem? (i := 1194) (by decide +kernel), List.mem_of_getElem? (i := 1195) (by decide +kernel)⟩
theorem lw_p50 : lw_okq (⟨"WhoBowsLastModel", "nextToken", "()V"⟩, 25) := ⟨⟨by decide +kernel, by decide +kernel⟩, List.mem_of_getElem? (i := 842) (by decide +kernel), List.mem_of_getElem? (i := 1198) (by decide +kernel), List.mem_of_getElem? (i := 1199) (by decide +kernel)⟩
theorem lw_p51 : lw_okq (⟨"WhoBowsLastModel", "readsItem", "()Z"⟩, 25) := ⟨⟨by decide +kernel, by decide +kernel⟩, List.mem_of_getElem? (i := 842) (by decide +kernel), List.mem_of_getElem? (i := 1213) (by decide +kernel), List.mem_of_getElem? (i := 1214) (by decide +kernel)⟩
theorem lw_p52 : lw_okq (⟨"WhoBowsLastModel", "wordOf", "([C)I"⟩, 25) := ⟨⟨by decide +kernel, by decide +kernel⟩, List.mem_of_getElem? (i := 842) (by decide +kernel), List.mem_of_getElem? (i := 1217) (by decide +kernel), List.mem_of_getElem? (i := 1218) (by decide +kernel)⟩
theorem lw_p53 : lw_okq (⟨"WhoBowsLastModel", "readsBow", "(I)Z"⟩, 25) := ⟨⟨by decide +kernel, by decide +kernel⟩, List.mem_of_getElem? (i := 842) (by decide +kernel), List.mem_of_getElem? (i := 1221) (by decide +kernel), List.mem_of_getElem? (i := 1222) (by decide +kernel)⟩
theorem lw_p54 : lw_okq (⟨"WhoBowsLastModel", "takesNumber", "(II)I"⟩, 25) := ⟨⟨by decide +kernel, by decide +kernel⟩, List.mem_of_getElem? (i := 842) (by decide +kernel), List.mem_of_getElem? (i := 1225) (by decide +kernel), List.mem_of_getElem? (i := 1226) (by decide +kernel)⟩
theorem lw_p55 : lw_okq (⟨"WhoBowsLastModel", "readsContract", "()Z"⟩, 25) := ⟨⟨by decide +kernel, by decide +kernel⟩, List.mem_of_getElem? (i := 842) (by decide +kernel), List.mem_of_getElem? (i := 1229) (by decide +kernel), List.mem_of_getElem? (i := 1230) (by decide +kernel)⟩
theorem lw_p56 : lw_okq (⟨"WhoBowsLastModel", "laysBack", "()V"⟩, 25) := ⟨⟨by decide +kernel, by decide +kernel⟩, List.mem_of_getElem? (i := 842) (by decide +kernel), List.mem_of_getElem? (i := 1233) (by decide +kernel), List.mem_of_getElem? (i := 1234) (by decide +kernel)⟩
theorem lw_p57 : lw_okq (⟨"WhoBowsLastModel", "wrongSheet", "(I)I"⟩, 25) := ⟨⟨by decide +kernel, by decide +kernel⟩, List.mem_of_getElem? (i := 842) (by decide +kernel), List.mem_of_getElem? (i := 1262) (by decide +kernel), List.mem_of_getElem? (i := 1263) (by decide +kernel)⟩
theorem lw_p58 : lw_okq (⟨"WhoBowsLastModel", "comeOf", "(I)I"⟩, 25) := ⟨⟨by decide +kernel, by decide +kernel⟩, List.mem_of_getElem? (i := 842) (by decide +kernel), List.mem_of_getElem? (i := 1278) (by decide +kernel), List.mem_of_getElem? (i := 1279) (by decide +kernel)⟩
def lw_privs_4 : List (MethodName × Nat) := [(⟨"WhoBowsLastModel", "draw", "()I"⟩, 25), (⟨"WhoBowsLastModel", "setsAside", "()V"⟩, 25), (⟨"WhoBowsLastModel", "nextToken", "()V"⟩, 25), (⟨"WhoBowsLastModel", "readsItem", "()Z"⟩, 25), (⟨"WhoBowsLastModel", "wordOf", "([C)I"⟩, 25), (⟨"WhoBowsLastModel", "readsBow", "(I)Z"⟩, 25), (⟨"WhoBowsLastModel", "takesNumber", "(II)I"⟩, 25), (⟨"WhoBowsLastModel", "readsContract", "()Z"⟩, 25), (⟨"WhoBowsLastModel", "laysBack", "()V"⟩, 25), (⟨"WhoBowsLastModel", "wrongSheet", "(I)I"⟩, 25), (⟨"WhoBowsLastModel", "comeOf", "(I)I"⟩, 25)]
theorem lw_r4 : ∀ q ∈ lw_privs_4, lw_okq q := List.forall_mem_cons.mpr ⟨lw_p48, List.forall_mem_cons.mpr ⟨lw_p49, List.forall_mem_cons.mpr ⟨lw_p50, List.forall_mem_cons.mpr ⟨lw_p51, List.forall_mem_cons.mpr ⟨lw_p52, List.forall_mem_cons.mpr ⟨lw_p53, List.forall_mem_cons.mpr ⟨lw_p54, List.forall_mem_cons.mpr ⟨lw_p55, List.forall_mem_cons.mpr ⟨lw_p56, List.forall_mem_cons.mpr ⟨lw_p57, List.forall_mem_cons.mpr ⟨lw_p58, fun _ h => absurd h List.not_mem_nil⟩⟩⟩⟩⟩⟩⟩⟩⟩⟩⟩
def lw_privs : List (MethodName × Nat) := lw_privs_1 ++ (lw_privs_2 ++ (lw_privs_3 ++ (lw_privs_4)))
def lw_tbl : List Cond := k2_sels lw_privs ++ tables_1
theorem lw_privs_ok : ∀ q ∈ lw_privs, lw_okq q := by
  show ∀ q ∈ lw_privs_1 ++ (lw_privs_2 ++ (lw_privs_3 ++ (lw_privs_4))), lw_okq q
  exact List.forall_mem_append.mpr ⟨lw_r1, List.forall_mem_append.mpr ⟨lw_r2, List.forall_mem_append.mpr ⟨lw_r3, lw_r4⟩⟩⟩
-- ===== end of PART A; then your names; then what follows =====
/-! ===== BEGIN words of one list among another's, by their places ===== -/
theorem goodIn_r {big : List Cond} (ws : List Cond) (ps : List Nat) (hp : ws = ps.filterMap (fun i => big[i]?)) (h : ws.all goodWord = true) : GoodIn big ws := by
  intro w hw
  have h1 := List.all_eq_true.mp h w hw
  rw [hp] at hw
  obtain ⟨i, -, hi⟩ := List.mem_filterMap.mp hw
  have hm : w ∈ big := by first | exact List.mem_of_getElem? hi | exact List.getElem?_mem hi
  exact ⟨hm, good_of_word h1⟩
theorem goodIn_app {big a b : List Cond} (ha : GoodIn big a) (hb : GoodIn big b) : GoodIn big (a ++ b) := fun w h => (List.mem_append.mp h).elim (ha w) (hb w)
theorem goodIn_ca {big a b : List Cond} {c : Cond} (ha : GoodIn big (c :: a)) (hb : GoodIn big b) : GoodIn big (c :: (a ++ b)) := fun w h => (List.mem_cons.mp h).elim (fun e => ha w (List.mem_cons.mpr (Or.inl e))) (fun h => (List.mem_append.mp h).elim (fun h => ha w (List.mem_cons.mpr (Or.inr h))) (hb w))
theorem goodIn_sub {big ws : List Cond} (hm : ∀ w ∈ ws, w ∈ big) (h : ws.all goodWord = true) : GoodIn big ws := fun w hw => ⟨hm w hw, good_of_word (List.all_eq_true.mp h w hw)⟩
/-! ===== END ===== -/

/-! ===== BEGIN printed: names, fields, word lists, decode rows ===== -/
def RX0 : String := "WhoBowsLast$Kinds"
def TX0 : u_T := fun k => match k with
  | _ => ("", "", "", false)
def tyX0 : Nat → FieldType := fun k => match k with
  | _ => .int
abbrev wsX00 : List Cond := u_ws RX0 TX0 0
theorem nmX0 : ∀ a, a < 0 → ∀ b, b < 0 → a ≠ b → (TX0 a).2.1 ≠ (TX0 b).2.1 := by decide +kernel
theorem tyX0_ok : ∀ k, k < 0 → parseFieldDescriptor (TX0 k).2.2.1 = some (tyX0 k) := by decide +kernel
abbrev cX0_noiseOf : ByteArray := prog_2_method_2_code
def yX0_noiseOf : MethodName := ⟨RX0, "noiseOf", "(III)I"⟩
abbrev cX0_fallingNoise : ByteArray := prog_2_method_3_code
def yX0_fallingNoise : MethodName := ⟨RX0, "fallingNoise", "(II)I"⟩
abbrev cX0_leftBy : ByteArray := prog_2_method_4_code
def yX0_leftBy : MethodName := ⟨RX0, "leftBy", "(II)I"⟩
abbrev cX0_lastedBy : ByteArray := prog_2_method_5_code
def yX0_lastedBy : MethodName := ⟨RX0, "lastedBy", "(II)I"⟩
abbrev cX0_isUnder : ByteArray := prog_2_method_6_code
def yX0_isUnder : MethodName := ⟨RX0, "isUnder", "(II)Z"⟩
def RX1 : String := "WhoBowsLast$Orders"
def TX1 : u_T := fun k => match k with
  | 0 => ("WhoBowsLast$Orders", "kinds", "[I", true)
  | 1 => ("WhoBowsLast$Orders", "loves", "[I", true)
  | 2 => ("WhoBowsLast$Orders", "aheads", "[I", true)
  | 3 => ("WhoBowsLast$Orders", "scores", "[I", true)
  | 4 => ("WhoBowsLast$Orders", "most", "[I", true)
  | 5 => ("WhoBowsLast$Orders", "followers", "[I", true)
  | 6 => ("WhoBowsLast$Orders", "mostThen", "[I", true)
  | 7 => ("WhoBowsLast$Orders", "many", "I", false)
  | 8 => ("WhoBowsLast$Orders", "bySet", "[I", true)
  | 9 => ("WhoBowsLast$Orders", "first", "[I", true)
  | 10 => ("WhoBowsLast$Orders", "bows", "I", false)
  | 11 => ("WhoBowsLast$Orders", "came", "I", false)
  | 12 => ("WhoBowsLast$Orders", "latest", "I", false)
  | 13 => ("WhoBowsLast$Orders", "full", "I", false)
  | 14 => ("WhoBowsLast$Orders", "freedOne", "I", false)
  | _ => ("WhoBowsLast$Orders", "freedMost", "I", false)
def tyX1 : Nat → FieldType := fun k => match k with
  | 0 => .array .int
  | 1 => .array .int
  | 2 => .array .int
  | 3 => .array .int
  | 4 => .array .int
  | 5 => .array .int
  | 6 => .array .int
  | 7 => .int
  | 8 => .array .int
  | 9 => .array .int
  | 10 => .int
  | 11 => .int
  | 12 => .int
  | 13 => .int
  | 14 => .int
  | _ => .int
abbrev wsX10 : List Cond := u_ws RX1 TX1 16
theorem nmX1 : ∀ a, a < 16 → ∀ b, b < 16 → a ≠ b → (TX1 a).2.1 ≠ (TX1 b).2.1 := by decide +kernel
theorem tyX1_ok : ∀ k, k < 16 → parseFieldDescriptor (TX1 k).2.2.1 = some (tyX1 k) := by decide +kernel
abbrev cX1_init : ByteArray := prog_3_method_1_code
def yX1_init : MethodName := ⟨RX1, "<init>", "()V"⟩
abbrev cX1_startFrom : ByteArray := prog_3_method_2_code
def yX1_startFrom : MethodName := ⟨RX1, "startFrom", "(LWhoBowsLast$Scene;)V"⟩
abbrev cX1_rest : ByteArray := prog_3_method_3_code
def yX1_rest : MethodName := ⟨RX1, "rest", "()I"⟩
abbrev cX1_canFollow : ByteArray := prog_3_method_4_code
def yX1_canFollow : MethodName := ⟨RX1, "canFollow", "(II)Z"⟩
abbrev cX1_haveWay : ByteArray := prog_3_method_5_code
def yX1_haveWay : MethodName := ⟨RX1, "haveWay", "()Z"⟩
abbrev cX1_canStand : ByteArray := prog_3_method_6_code
def yX1_canStand : MethodName := ⟨RX1, "canStand", "(I)Z"⟩
abbrev cX1_score : ByteArray := prog_3_method_7_code
def yX1_score : MethodName := ⟨RX1, "score", "(I)V"⟩
abbrev cX1_weigh : ByteArray := prog_3_method_8_code
def yX1_weigh : MethodName := ⟨RX1, "weigh", "(I)I"⟩
abbrev cX1_findFollowers : ByteArray := prog_3_method_9_code
def yX1_findFollowers : MethodName := ⟨RX1, "findFollowers", "(I)V"⟩
abbrev cX1_mostBehind : ByteArray := prog_3_method_10_code
def yX1_mostBehind : MethodName := ⟨RX1, "mostBehind", "(I)I"⟩
abbrev cX1_findFirst : ByteArray := prog_3_method_11_code
def yX1_findFirst : MethodName := ⟨RX1, "findFirst", "(I)V"⟩
abbrev cX1_firstBehind : ByteArray := prog_3_method_12_code
def yX1_firstBehind : MethodName := ⟨RX1, "firstBehind", "(I)I"⟩
abbrev cX1_countWays : ByteArray := prog_3_method_13_code
def yX1_countWays : MethodName := ⟨RX1, "countWays", "()I"⟩
abbrev cX1_lastOnes : ByteArray := prog_3_method_14_code
def yX1_lastOnes : MethodName := ⟨RX1, "lastOnes", "()I"⟩
abbrev cX1_allAhead : ByteArray := prog_3_method_15_code
def yX1_allAhead : MethodName := ⟨RX1, "allAhead", "(II)I"⟩
abbrev cX1_earliest : ByteArray := prog_3_method_16_code
def yX1_earliest : MethodName := ⟨RX1, "earliest", "(I)I"⟩
abbrev cX1_latest : ByteArray := prog_3_method_17_code
def yX1_latest : MethodName := ⟨RX1, "latest", "(I)I"⟩
abbrev cX1_fewestBroken : ByteArray := prog_3_method_18_code
def yX1_fewestBroken : MethodName := ⟨RX1, "fewestBroken", "()I"⟩
abbrev cX1_bestKind : ByteArray := prog_3_method_19_code
def yX1_bestKind : MethodName := ⟨RX1, "bestKind", "(I)I"⟩
abbrev cX1_freeOne : ByteArray := prog_3_method_20_code
def yX1_freeOne : MethodName := ⟨RX1, "freeOne", "()Z"⟩
def RX2 : String := "WhoBowsLast$Scene"
def TX2 : u_T := fun k => match k with
  | 0 => ("WhoBowsLast$Scene", "bows", "I", false)
  | 1 => ("WhoBowsLast$Scene", "kinds", "[I", true)
  | 2 => ("WhoBowsLast$Scene", "loves", "[I", true)
  | 3 => ("WhoBowsLast$Scene", "seconds", "[I", true)
  | 4 => ("WhoBowsLast$Scene", "aheads", "[I", true)
  | 5 => ("WhoBowsLast$Scene", "rules", "[I", true)
  | 6 => ("WhoBowsLast$Scene", "there", "I", false)
  | 7 => ("WhoBowsLast$Scene", "came", "I", false)
  | 8 => ("WhoBowsLast$Scene", "heard", "I", false)
  | 9 => ("WhoBowsLast$Scene", "clock", "I", false)
  | 10 => ("WhoBowsLast$Scene", "stage", "[I", true)
  | 11 => ("WhoBowsLast$Scene", "noises", "[I", true)
  | 12 => ("WhoBowsLast$Scene", "times", "[I", true)
  | 13 => ("WhoBowsLast$Scene", "z", "I", false)
  | _ => ("WhoBowsLast$Scene", "spots", "[I", true)
def tyX2 : Nat → FieldType := fun k => match k with
  | 0 => .int
  | 1 => .array .int
  | 2 => .array .int
  | 3 => .array .int
  | 4 => .array .int
  | 5 => .array .int
  | 6 => .int
  | 7 => .int
  | 8 => .int
  | 9 => .int
  | 10 => .array .int
  | 11 => .array .int
  | 12 => .array .int
  | 13 => .int
  | _ => .array .int
abbrev wsX20 : List Cond := u_ws RX2 TX2 15
theorem nmX2 : ∀ a, a < 15 → ∀ b, b < 15 → a ≠ b → (TX2 a).2.1 ≠ (TX2 b).2.1 := by decide +kernel
theorem tyX2_ok : ∀ k, k < 15 → parseFieldDescriptor (TX2 k).2.2.1 = some (tyX2 k) := by decide +kernel
abbrev cX2_init : ByteArray := prog_4_method_1_code
def yX2_init : MethodName := ⟨RX2, "<init>", "()V"⟩
abbrev cX2_become : ByteArray := prog_4_method_2_code
def yX2_become : MethodName := ⟨RX2, "become", "(LWhoBowsLast$Scene;)V"⟩
abbrev cX2_isBow : ByteArray := prog_4_method_3_code
def yX2_isBow : MethodName := ⟨RX2, "isBow", "(I)Z"⟩
abbrev cX2_isSetWithout : ByteArray := prog_4_method_4_code
def yX2_isSetWithout : MethodName := ⟨RX2, "isSetWithout", "(II)Z"⟩
abbrev cX2_addBow : ByteArray := prog_4_method_5_code
def yX2_addBow : MethodName := ⟨RX2, "addBow", "(I)I"⟩
abbrev cX2_noiseBy : ByteArray := prog_4_method_6_code
def yX2_noiseBy : MethodName := ⟨RX2, "noiseBy", "(II)I"⟩
abbrev cX2_leftBy : ByteArray := prog_4_method_7_code
def yX2_leftBy : MethodName := ⟨RX2, "leftBy", "(I)I"⟩
abbrev cX2_leftByLatest : ByteArray := prog_4_method_8_code
def yX2_leftByLatest : MethodName := ⟨RX2, "leftByLatest", "()I"⟩
abbrev cX2_lastedBy : ByteArray := prog_4_method_9_code
def yX2_lastedBy : MethodName := ⟨RX2, "lastedBy", "(I)I"⟩
abbrev cX2_hasCome : ByteArray := prog_4_method_10_code
def yX2_hasCome : MethodName := ⟨RX2, "hasCome", "(I)Z"⟩
abbrev cX2_couldCome : ByteArray := prog_4_method_11_code
def yX2_couldCome : MethodName := ⟨RX2, "couldCome", "(II)Z"⟩
abbrev cX2_comers : ByteArray := prog_4_method_12_code
def yX2_comers : MethodName := ⟨RX2, "comers", "()I"⟩
abbrev cX2_enter : ByteArray := prog_4_method_13_code
def yX2_enter : MethodName := ⟨RX2, "enter", "(I)I"⟩
abbrev cX2_leave : ByteArray := prog_4_method_14_code
def yX2_leave : MethodName := ⟨RX2, "leave", "()I"⟩
abbrev cX2_empty : ByteArray := prog_4_method_15_code
def yX2_empty : MethodName := ⟨RX2, "empty", "()V"⟩
abbrev cX2_falls : ByteArray := prog_4_method_16_code
def yX2_falls : MethodName := ⟨RX2, "falls", "()I"⟩
abbrev cX2_draw : ByteArray := prog_4_method_17_code
def yX2_draw : MethodName := ⟨RX2, "draw", "()I"⟩
abbrev cX2_contracts : ByteArray := prog_4_method_18_code
def yX2_contracts : MethodName := ⟨RX2, "contracts", "()I"⟩
abbrev cX2_lovesTogether : ByteArray := prog_4_method_19_code
def yX2_lovesTogether : MethodName := ⟨RX2, "lovesTogether", "()I"⟩
abbrev cX2_heldSpots : ByteArray := prog_4_method_20_code
def yX2_heldSpots : MethodName := ⟨RX2, "heldSpots", "()I"⟩
def RX3 : String := "WhoBowsLast$Sheets"
def TX3 : u_T := fun k => match k with
  | 0 => ("WhoBowsLast$Sheets", "bits", "[I", true)
  | 1 => ("WhoBowsLast$Sheets", "sizes", "[I", true)
  | _ => ("WhoBowsLast$Sheets", "numbers", "[I", true)
def tyX3 : Nat → FieldType := fun k => match k with
  | 0 => .array .int
  | 1 => .array .int
  | _ => .array .int
abbrev wsX30 : List Cond := u_ws RX3 TX3 3
theorem nmX3 : ∀ a, a < 3 → ∀ b, b < 3 → a ≠ b → (TX3 a).2.1 ≠ (TX3 b).2.1 := by decide +kernel
theorem tyX3_ok : ∀ k, k < 3 → parseFieldDescriptor (TX3 k).2.2.1 = some (tyX3 k) := by decide +kernel
abbrev cX3_init : ByteArray := prog_5_method_1_code
def yX3_init : MethodName := ⟨RX3, "<init>", "()V"⟩
abbrev cX3_isSheet : ByteArray := prog_5_method_2_code
def yX3_isSheet : MethodName := ⟨RX3, "isSheet", "(I)Z"⟩
abbrev cX3_wrongWith : ByteArray := prog_5_method_3_code
def yX3_wrongWith : MethodName := ⟨RX3, "wrongWith", "(I)I"⟩
abbrev cX3_lay : ByteArray := prog_5_method_4_code
def yX3_lay : MethodName := ⟨RX3, "lay", "(III)I"⟩
abbrev cX3_numberAt : ByteArray := prog_5_method_5_code
def yX3_numberAt : MethodName := ⟨RX3, "numberAt", "(II)I"⟩
abbrev cX3_set : ByteArray := prog_5_method_6_code
def yX3_set : MethodName := ⟨RX3, "set", "(III)V"⟩
abbrev cX3_hasPart : ByteArray := prog_5_method_7_code
def yX3_hasPart : MethodName := ⟨RX3, "hasPart", "(III)Z"⟩
abbrev cX3_move : ByteArray := prog_5_method_8_code
def yX3_move : MethodName := ⟨RX3, "move", "(IIIII)I"⟩
def RX4 : String := "WhoBowsLast$Tape"
def TX4 : u_T := fun k => match k with
  | 0 => ("WhoBowsLast$Tape", "bytes", "[I", true)
  | 1 => ("WhoBowsLast$Tape", "size", "I", false)
  | 2 => ("WhoBowsLast$Tape", "sorts", "[I", true)
  | 3 => ("WhoBowsLast$Tape", "starts", "[I", true)
  | 4 => ("WhoBowsLast$Tape", "lengths", "[I", true)
  | 5 => ("WhoBowsLast$Tape", "values", "[I", true)
  | 6 => ("WhoBowsLast$Tape", "tokens", "I", false)
  | 7 => ("WhoBowsLast$Tape", "at", "I", false)
  | 8 => ("WhoBowsLast$Tape", "sort", "I", false)
  | _ => ("WhoBowsLast$Tape", "value", "I", false)
def tyX4 : Nat → FieldType := fun k => match k with
  | 0 => .array .int
  | 1 => .int
  | 2 => .array .int
  | 3 => .array .int
  | 4 => .array .int
  | 5 => .array .int
  | 6 => .int
  | 7 => .int
  | 8 => .int
  | _ => .int
abbrev wsX40 : List Cond := u_ws RX4 TX4 10
theorem nmX4 : ∀ a, a < 10 → ∀ b, b < 10 → a ≠ b → (TX4 a).2.1 ≠ (TX4 b).2.1 := by decide +kernel
theorem tyX4_ok : ∀ k, k < 10 → parseFieldDescriptor (TX4 k).2.2.1 = some (tyX4 k) := by decide +kernel
abbrev cX4_init : ByteArray := prog_6_method_1_code
def yX4_init : MethodName := ⟨RX4, "<init>", "()V"⟩
abbrev cX4_hasRoom : ByteArray := prog_6_method_2_code
def yX4_hasRoom : MethodName := ⟨RX4, "hasRoom", "(I)Z"⟩
abbrev cX4_append : ByteArray := prog_6_method_3_code
def yX4_append : MethodName := ⟨RX4, "append", "(II)I"⟩
abbrev cX4_empty : ByteArray := prog_6_method_4_code
def yX4_empty : MethodName := ⟨RX4, "empty", "()I"⟩
abbrev cX4_readOnto : ByteArray := prog_6_method_5_code
def yX4_readOnto : MethodName := ⟨RX4, "readOnto", "(LWhoBowsLast$Scene;)I"⟩
abbrev cX4_readItem : ByteArray := prog_6_method_6_code
def yX4_readItem : MethodName := ⟨RX4, "readItem", "(LWhoBowsLast$Scene;)Z"⟩
abbrev cX4_readBow : ByteArray := prog_6_method_7_code
def yX4_readBow : MethodName := ⟨RX4, "readBow", "(LWhoBowsLast$Scene;)Z"⟩
abbrev cX4_readPart : ByteArray := prog_6_method_8_code
def yX4_readPart : MethodName := ⟨RX4, "readPart", "(III[II)Z"⟩
abbrev cX4_readRule : ByteArray := prog_6_method_9_code
def yX4_readRule : MethodName := ⟨RX4, "readRule", "(LWhoBowsLast$Scene;)Z"⟩
abbrev cX4_readContract : ByteArray := prog_6_method_10_code
def yX4_readContract : MethodName := ⟨RX4, "readContract", "(LWhoBowsLast$Scene;)Z"⟩
abbrev cX4_isNumber : ByteArray := prog_6_method_11_code
def yX4_isNumber : MethodName := ⟨RX4, "isNumber", "(II)Z"⟩
abbrev cX4_cut : ByteArray := prog_6_method_12_code
def yX4_cut : MethodName := ⟨RX4, "cut", "()V"⟩
abbrev cX4_valueOf : ByteArray := prog_6_method_13_code
def yX4_valueOf : MethodName := ⟨RX4, "valueOf", "(I)I"⟩
abbrev cX4_sortOf : ByteArray := prog_6_method_14_code
def yX4_sortOf : MethodName := ⟨RX4, "sortOf", "(I)I"⟩
abbrev cX4_take : ByteArray := prog_6_method_15_code
def yX4_take : MethodName := ⟨RX4, "take", "(I)V"⟩
abbrev cX4_wordAt : ByteArray := prog_6_method_16_code
def yX4_wordAt : MethodName := ⟨RX4, "wordAt", "(II)I"⟩
abbrev cX4_isWord : ByteArray := prog_6_method_17_code
def yX4_isWord : MethodName := ⟨RX4, "isWord", "(Ljava/lang/String;II)Z"⟩
abbrev cX4_numberAt : ByteArray := prog_6_method_18_code
def yX4_numberAt : MethodName := ⟨RX4, "numberAt", "(II)I"⟩
abbrev cX4_spelled : ByteArray := prog_6_method_19_code
def yX4_spelled : MethodName := ⟨RX4, "spelled", "(I)Ljava/lang/String;"⟩
def RX5 : String := "WhoBowsLast"
def TX5 : u_T := fun k => match k with
  | 0 => ("WhoBowsLast", "found", "[I", true)
  | 1 => ("WhoBowsLast", "scene", "LWhoBowsLast$Scene;", true)
  | 2 => ("WhoBowsLast", "kept", "LWhoBowsLast$Scene;", true)
  | 3 => ("WhoBowsLast", "draft", "LWhoBowsLast$Scene;", true)
  | 4 => ("WhoBowsLast", "orders", "LWhoBowsLast$Orders;", true)
  | 5 => ("WhoBowsLast", "tape", "LWhoBowsLast$Tape;", true)
  | 6 => ("WhoBowsLast", "sheets", "LWhoBowsLast$Sheets;", true)
  | _ => ("WhoBowsLast", "isKept", "Z", false)
def tyX5 : Nat → FieldType := fun k => match k with
  | 0 => .array .int
  | 1 => .object "WhoBowsLast$Scene"
  | 2 => .object "WhoBowsLast$Scene"
  | 3 => .object "WhoBowsLast$Scene"
  | 4 => .object "WhoBowsLast$Orders"
  | 5 => .object "WhoBowsLast$Tape"
  | 6 => .object "WhoBowsLast$Sheets"
  | _ => .boolean
abbrev wsX50 : List Cond := u_ws RX5 TX5 8
theorem nmX5 : ∀ a, a < 8 → ∀ b, b < 8 → a ≠ b → (TX5 a).2.1 ≠ (TX5 b).2.1 := by decide +kernel
theorem tyX5_ok : ∀ k, k < 8 → parseFieldDescriptor (TX5 k).2.2.1 = some (tyX5 k) := by decide +kernel
abbrev cX5_init : ByteArray := prog_1_method_1_code
def yX5_init : MethodName := ⟨RX5, "<init>", "()V"⟩
abbrev cX5_bow : ByteArray := prog_1_method_2_code
def yX5_bow : MethodName := ⟨RX5, "bow", "(I)I"⟩
abbrev cX5_of : ByteArray := prog_1_method_3_code
def yX5_of : MethodName := ⟨RX5, "of", "(II)I"⟩
abbrev cX5_change : ByteArray := prog_1_method_4_code
def yX5_change : MethodName := ⟨RX5, "change", "(III)I"⟩
abbrev cX5_contract : ByteArray := prog_1_method_5_code
def yX5_contract : MethodName := ⟨RX5, "contract", "(III)I"⟩
abbrev cX5_rule : ByteArray := prog_1_method_6_code
def yX5_rule : MethodName := ⟨RX5, "rule", "(II)I"⟩
abbrev cX5_noise : ByteArray := prog_1_method_7_code
def yX5_noise : MethodName := ⟨RX5, "noise", "(II)I"⟩
abbrev cX5_come : ByteArray := prog_1_method_8_code
def yX5_come : MethodName := ⟨RX5, "come", "(I)I"⟩
abbrev cX5_back : ByteArray := prog_1_method_9_code
def yX5_back : MethodName := ⟨RX5, "back", "()I"⟩
abbrev cX5_clear : ByteArray := prog_1_method_10_code
def yX5_clear : MethodName := ⟨RX5, "clear", "()I"⟩
abbrev cX5_stood : ByteArray := prog_1_method_11_code
def yX5_stood : MethodName := ⟨RX5, "stood", "(I)I"⟩
abbrev cX5_now : ByteArray := prog_1_method_12_code
def yX5_now : MethodName := ⟨RX5, "now", "(I)I"⟩
abbrev cX5_best : ByteArray := prog_1_method_13_code
def yX5_best : MethodName := ⟨RX5, "best", "(I)I"⟩
abbrev cX5_ith : ByteArray := prog_1_method_14_code
def yX5_ith : MethodName := ⟨RX5, "ith", "(II)I"⟩
abbrev cX5_ways : ByteArray := prog_1_method_15_code
def yX5_ways : MethodName := ⟨RX5, "ways", "()I"⟩
abbrev cX5_lasts : ByteArray := prog_1_method_16_code
def yX5_lasts : MethodName := ⟨RX5, "lasts", "()I"⟩
abbrev cX5_place : ByteArray := prog_1_method_17_code
def yX5_place : MethodName := ⟨RX5, "place", "(II)I"⟩
abbrev cX5_all : ByteArray := prog_1_method_18_code
def yX5_all : MethodName := ⟨RX5, "all", "(I)I"⟩
abbrev cX5_clash : ByteArray := prog_1_method_19_code
def yX5_clash : MethodName := ⟨RX5, "clash", "()I"⟩
abbrev cX5_broken : ByteArray := prog_1_method_20_code
def yX5_broken : MethodName := ⟨RX5, "broken", "()I"⟩
abbrev cX5_between : ByteArray := prog_1_method_21_code
def yX5_between : MethodName := ⟨RX5, "between", "(II)I"⟩
abbrev cX5_kindFor : ByteArray := prog_1_method_22_code
def yX5_kindFor : MethodName := ⟨RX5, "kindFor", "(I)I"⟩
abbrev cX5_freed : ByteArray := prog_1_method_23_code
def yX5_freed : MethodName := ⟨RX5, "freed", "()I"⟩
abbrev cX5_free : ByteArray := prog_1_method_24_code
def yX5_free : MethodName := ⟨RX5, "free", "()I"⟩
abbrev cX5_train : ByteArray := prog_1_method_25_code
def yX5_train : MethodName := ⟨RX5, "train", "()I"⟩
abbrev cX5_fits : ByteArray := prog_1_method_26_code
def yX5_fits : MethodName := ⟨RX5, "fits", "(III)I"⟩
abbrev cX5_love : ByteArray := prog_1_method_27_code
def yX5_love : MethodName := ⟨RX5, "love", "(III)I"⟩
abbrev cX5_curtain : ByteArray := prog_1_method_28_code
def yX5_curtain : MethodName := ⟨RX5, "curtain", "(II)J"⟩
abbrev cX5_stop : ByteArray := prog_1_method_29_code
def yX5_stop : MethodName := ⟨RX5, "stop", "()I"⟩
abbrev cX5_evening : ByteArray := prog_1_method_30_code
def yX5_evening : MethodName := ⟨RX5, "evening", "(I)I"⟩
abbrev cX5_lot : ByteArray := prog_1_method_31_code
def yX5_lot : MethodName := ⟨RX5, "lot", "()I"⟩
abbrev cX5_seed : ByteArray := prog_1_method_32_code
def yX5_seed : MethodName := ⟨RX5, "seed", "(I)I"⟩
abbrev cX5_feed : ByteArray := prog_1_method_33_code
def yX5_feed : MethodName := ⟨RX5, "feed", "(II)I"⟩
abbrev cX5_wipe : ByteArray := prog_1_method_34_code
def yX5_wipe : MethodName := ⟨RX5, "wipe", "()I"⟩
abbrev cX5_text : ByteArray := prog_1_method_35_code
def yX5_text : MethodName := ⟨RX5, "text", "()I"⟩
abbrev cX5_hold : ByteArray := prog_1_method_36_code
def yX5_hold : MethodName := ⟨RX5, "hold", "(II)I"⟩
abbrev cX5_as : ByteArray := prog_1_method_37_code
def yX5_as : MethodName := ⟨RX5, "as", "(II)I"⟩
abbrev cX5_sheet : ByteArray := prog_1_method_38_code
def yX5_sheet : MethodName := ⟨RX5, "sheet", "(III)I"⟩
abbrev cX5_write : ByteArray := prog_1_method_39_code
def yX5_write : MethodName := ⟨RX5, "write", "(III)I"⟩
abbrev cX5_copy : ByteArray := prog_1_method_40_code
def yX5_copy : MethodName := ⟨RX5, "copy", "(IIIII)I"⟩
abbrev cX5_load : ByteArray := prog_1_method_41_code
def yX5_load : MethodName := ⟨RX5, "load", "(I)I"⟩
abbrev cX5_judge : ByteArray := prog_1_method_42_code
def yX5_judge : MethodName := ⟨RX5, "judge", "(I)I"⟩
abbrev cX5_loud : ByteArray := prog_1_method_43_code
def yX5_loud : MethodName := ⟨RX5, "loud", "(I)I"⟩
abbrev cX5_image : ByteArray := prog_1_method_44_code
def yX5_image : MethodName := ⟨RX5, "image", "()I"⟩
abbrev cX5_undo : ByteArray := prog_1_method_45_code
def yX5_undo : MethodName := ⟨RX5, "undo", "()I"⟩
abbrev cX5_tear : ByteArray := prog_1_method_46_code
def yX5_tear : MethodName := ⟨RX5, "tear", "()I"⟩
abbrev cX5_count : ByteArray := prog_1_method_47_code
def yX5_count : MethodName := ⟨RX5, "count", "(I)I"⟩
abbrev cX5_status : ByteArray := prog_1_method_48_code
def yX5_status : MethodName := ⟨RX5, "status", "(I)I"⟩
abbrev cX5_finding : ByteArray := prog_1_method_49_code
def yX5_finding : MethodName := ⟨RX5, "finding", "(I)I"⟩
abbrev cX5_isIn : ByteArray := prog_1_method_50_code
def yX5_isIn : MethodName := ⟨RX5, "isIn", "(III)Z"⟩
abbrev cX5_put : ByteArray := prog_1_method_51_code
def yX5_put : MethodName := ⟨RX5, "put", "([III)I"⟩
abbrev cX5_memberOf : ByteArray := prog_1_method_52_code
def yX5_memberOf : MethodName := ⟨RX5, "memberOf", "(II)I"⟩
abbrev cX5_gainAt : ByteArray := prog_1_method_53_code
def yX5_gainAt : MethodName := ⟨RX5, "gainAt", "(I)I"⟩
abbrev cX5_partsFrom : ByteArray := prog_1_method_54_code
def yX5_partsFrom : MethodName := ⟨RX5, "partsFrom", "(I)J"⟩
abbrev cX5_worth : ByteArray := prog_1_method_55_code
def yX5_worth : MethodName := ⟨RX5, "worth", "(I)J"⟩
abbrev cX5_firstThatCannot : ByteArray := prog_1_method_56_code
def yX5_firstThatCannot : MethodName := ⟨RX5, "firstThatCannot", "(I)I"⟩
def RX6 : String := "WhoBowsLastModel"
def TX6 : u_T := fun k => match k with
  | 0 => ("WhoBowsLastModel", "s", "[I", true)
  | 1 => ("WhoBowsLastModel", "kept", "[I", true)
  | 2 => ("WhoBowsLastModel", "aside", "[I", true)
  | 3 => ("WhoBowsLastModel", "isKept", "Z", false)
  | 4 => ("WhoBowsLastModel", "found", "[I", true)
  | 5 => ("WhoBowsLastModel", "behind", "[I", true)
  | 6 => ("WhoBowsLastModel", "row", "[I", true)
  | 7 => ("WhoBowsLastModel", "rowMany", "I", false)
  | 8 => ("WhoBowsLastModel", "comesTo", "[I", true)
  | 9 => ("WhoBowsLastModel", "goesOn", "[I", true)
  | 10 => ("WhoBowsLastModel", "freedBy", "I", false)
  | 11 => ("WhoBowsLastModel", "tape", "[I", true)
  | 12 => ("WhoBowsLastModel", "taped", "I", false)
  | 13 => ("WhoBowsLastModel", "token", "I", false)
  | 14 => ("WhoBowsLastModel", "begun", "I", false)
  | 15 => ("WhoBowsLastModel", "ended", "I", false)
  | 16 => ("WhoBowsLastModel", "value", "J", false)
  | 17 => ("WhoBowsLastModel", "letters", "[C", true)
  | 18 => ("WhoBowsLastModel", "more", "[C", true)
  | 19 => ("WhoBowsLastModel", "others", "[C", true)
  | 20 => ("WhoBowsLastModel", "widths", "[I", true)
  | 21 => ("WhoBowsLastModel", "sizes", "[I", true)
  | 22 => ("WhoBowsLastModel", "cells", "[I", true)
  | 23 => ("WhoBowsLastModel", "carried", "[I", true)
  | _ => ("WhoBowsLastModel", "loudBy", "I", false)
def tyX6 : Nat → FieldType := fun k => match k with
  | 0 => .array .int
  | 1 => .array .int
  | 2 => .array .int
  | 3 => .boolean
  | 4 => .array .int
  | 5 => .array .int
  | 6 => .array .int
  | 7 => .int
  | 8 => .array .int
  | 9 => .array .int
  | 10 => .int
  | 11 => .array .int
  | 12 => .int
  | 13 => .int
  | 14 => .int
  | 15 => .int
  | 16 => .long
  | 17 => .array .char
  | 18 => .array .char
  | 19 => .array .char
  | 20 => .array .int
  | 21 => .array .int
  | 22 => .array .int
  | 23 => .array .int
  | _ => .int
abbrev wsX60 : List Cond := u_ws RX6 TX6 25
theorem nmX6 : ∀ a, a < 25 → ∀ b, b < 25 → a ≠ b → (TX6 a).2.1 ≠ (TX6 b).2.1 := by decide +kernel
theorem tyX6_ok : ∀ k, k < 25 → parseFieldDescriptor (TX6 k).2.2.1 = some (tyX6 k) := by decide +kernel
abbrev cX6_init : ByteArray := prog_8_method_1_code
def yX6_init : MethodName := ⟨RX6, "<init>", "()V"⟩
abbrev cX6_no : ByteArray := prog_8_method_2_code
def yX6_no : MethodName := ⟨RX6, "no", "(I)I"⟩
abbrev cX6_in1 : ByteArray := prog_8_method_3_code
def yX6_in1 : MethodName := ⟨RX6, "in1", "(III)Z"⟩
abbrev cX6_most : ByteArray := prog_8_method_4_code
def yX6_most : MethodName := ⟨RX6, "most", "(II)I"⟩
abbrev cX6_bits : ByteArray := prog_8_method_5_code
def yX6_bits : MethodName := ⟨RX6, "bits", "(I)I"⟩
abbrev cX6_isIn : ByteArray := prog_8_method_6_code
def yX6_isIn : MethodName := ⟨RX6, "isIn", "(II)Z"⟩
abbrev cX6_isBow : ByteArray := prog_8_method_7_code
def yX6_isBow : MethodName := ⟨RX6, "isBow", "(I)Z"⟩
abbrev cX6_get : ByteArray := prog_8_method_8_code
def yX6_get : MethodName := ⟨RX6, "get", "(II)I"⟩
abbrev cX6_puts : ByteArray := prog_8_method_9_code
def yX6_puts : MethodName := ⟨RX6, "puts", "(III)V"⟩
abbrev cX6_allBows : ByteArray := prog_8_method_10_code
def yX6_allBows : MethodName := ⟨RX6, "allBows", "()I"⟩
abbrev cX6_noiseOf : ByteArray := prog_8_method_11_code
def yX6_noiseOf : MethodName := ⟨RX6, "noiseOf", "(III)I"⟩
abbrev cX6_noiseBy : ByteArray := prog_8_method_12_code
def yX6_noiseBy : MethodName := ⟨RX6, "noiseBy", "(II)I"⟩
abbrev cX6_leaves : ByteArray := prog_8_method_13_code
def yX6_leaves : MethodName := ⟨RX6, "leaves", "(I)I"⟩
abbrev cX6_secondsOf : ByteArray := prog_8_method_14_code
def yX6_secondsOf : MethodName := ⟨RX6, "secondsOf", "(I)I"⟩
abbrev cX6_leftBy : ByteArray := prog_8_method_15_code
def yX6_leftBy : MethodName := ⟨RX6, "leftBy", "(I)I"⟩
abbrev cX6_whoAt : ByteArray := prog_8_method_16_code
def yX6_whoAt : MethodName := ⟨RX6, "whoAt", "(I)I"⟩
abbrev cX6_stageSet : ByteArray := prog_8_method_17_code
def yX6_stageSet : MethodName := ⟨RX6, "stageSet", "()I"⟩
abbrev cX6_latest : ByteArray := prog_8_method_18_code
def yX6_latest : MethodName := ⟨RX6, "latest", "()I"⟩
abbrev cX6_canBehind : ByteArray := prog_8_method_19_code
def yX6_canBehind : MethodName := ⟨RX6, "canBehind", "(II)Z"⟩
abbrev cX6_canSet : ByteArray := prog_8_method_20_code
def yX6_canSet : MethodName := ⟨RX6, "canSet", "(I)I"⟩
abbrev cX6_comes : ByteArray := prog_8_method_21_code
def yX6_comes : MethodName := ⟨RX6, "comes", "(I)I"⟩
abbrev cX6_addsBow : ByteArray := prog_8_method_22_code
def yX6_addsBow : MethodName := ⟨RX6, "addsBow", "(I)V"⟩
abbrev cX6_bow : ByteArray := prog_8_method_23_code
def yX6_bow : MethodName := ⟨RX6, "bow", "(I)I"⟩
abbrev cX6_of : ByteArray := prog_8_method_24_code
def yX6_of : MethodName := ⟨RX6, "of", "(II)I"⟩
abbrev cX6_change : ByteArray := prog_8_method_25_code
def yX6_change : MethodName := ⟨RX6, "change", "(III)I"⟩
abbrev cX6_contract : ByteArray := prog_8_method_26_code
def yX6_contract : MethodName := ⟨RX6, "contract", "(III)I"⟩
abbrev cX6_greatestRule : ByteArray := prog_8_method_27_code
def yX6_greatestRule : MethodName := ⟨RX6, "greatestRule", "(I)I"⟩
abbrev cX6_rule : ByteArray := prog_8_method_28_code
def yX6_rule : MethodName := ⟨RX6, "rule", "(II)I"⟩
abbrev cX6_noise : ByteArray := prog_8_method_29_code
def yX6_noise : MethodName := ⟨RX6, "noise", "(II)I"⟩
abbrev cX6_come : ByteArray := prog_8_method_30_code
def yX6_come : MethodName := ⟨RX6, "come", "(I)I"⟩
abbrev cX6_back : ByteArray := prog_8_method_31_code
def yX6_back : MethodName := ⟨RX6, "back", "()I"⟩
abbrev cX6_clear : ByteArray := prog_8_method_32_code
def yX6_clear : MethodName := ⟨RX6, "clear", "()I"⟩
abbrev cX6_stood : ByteArray := prog_8_method_33_code
def yX6_stood : MethodName := ⟨RX6, "stood", "(I)I"⟩
abbrev cX6_fallsOfStage : ByteArray := prog_8_method_34_code
def yX6_fallsOfStage : MethodName := ⟨RX6, "fallsOfStage", "()I"⟩
abbrev cX6_now : ByteArray := prog_8_method_35_code
def yX6_now : MethodName := ⟨RX6, "now", "(I)I"⟩
abbrev cX6_brings : ByteArray := prog_8_method_36_code
def yX6_brings : MethodName := ⟨RX6, "brings", "(III)I"⟩
abbrev cX6_findsBest : ByteArray := prog_8_method_37_code
def yX6_findsBest : MethodName := ⟨RX6, "findsBest", "(I)I"⟩
abbrev cX6_findsRow : ByteArray := prog_8_method_38_code
def yX6_findsRow : MethodName := ⟨RX6, "findsRow", "(I)Z"⟩
abbrev cX6_best : ByteArray := prog_8_method_39_code
def yX6_best : MethodName := ⟨RX6, "best", "(I)I"⟩
abbrev cX6_ith : ByteArray := prog_8_method_40_code
def yX6_ith : MethodName := ⟨RX6, "ith", "(II)I"⟩
abbrev cX6_countsWays : ByteArray := prog_8_method_41_code
def yX6_countsWays : MethodName := ⟨RX6, "countsWays", "()I"⟩
abbrev cX6_ways : ByteArray := prog_8_method_42_code
def yX6_ways : MethodName := ⟨RX6, "ways", "()I"⟩
abbrev cX6_lasts : ByteArray := prog_8_method_43_code
def yX6_lasts : MethodName := ⟨RX6, "lasts", "()I"⟩
abbrev cX6_place : ByteArray := prog_8_method_44_code
def yX6_place : MethodName := ⟨RX6, "place", "(II)I"⟩
abbrev cX6_allAhead : ByteArray := prog_8_method_45_code
def yX6_allAhead : MethodName := ⟨RX6, "allAhead", "(I)I"⟩
abbrev cX6_all : ByteArray := prog_8_method_46_code
def yX6_all : MethodName := ⟨RX6, "all", "(I)I"⟩
abbrev cX6_clash : ByteArray := prog_8_method_47_code
def yX6_clash : MethodName := ⟨RX6, "clash", "()I"⟩
abbrev cX6_broken : ByteArray := prog_8_method_48_code
def yX6_broken : MethodName := ⟨RX6, "broken", "()I"⟩
abbrev cX6_between : ByteArray := prog_8_method_49_code
def yX6_between : MethodName := ⟨RX6, "between", "(II)I"⟩
abbrev cX6_kindFor : ByteArray := prog_8_method_50_code
def yX6_kindFor : MethodName := ⟨RX6, "kindFor", "(I)I"⟩
abbrev cX6_findsFreed : ByteArray := prog_8_method_51_code
def yX6_findsFreed : MethodName := ⟨RX6, "findsFreed", "()I"⟩
abbrev cX6_freed : ByteArray := prog_8_method_52_code
def yX6_freed : MethodName := ⟨RX6, "freed", "()I"⟩
abbrev cX6_free : ByteArray := prog_8_method_53_code
def yX6_free : MethodName := ⟨RX6, "free", "()I"⟩
abbrev cX6_train : ByteArray := prog_8_method_54_code
def yX6_train : MethodName := ⟨RX6, "train", "()I"⟩
abbrev cX6_isAsked : ByteArray := prog_8_method_55_code
def yX6_isAsked : MethodName := ⟨RX6, "isAsked", "(II)Z"⟩
abbrev cX6_fits : ByteArray := prog_8_method_56_code
def yX6_fits : MethodName := ⟨RX6, "fits", "(III)I"⟩
abbrev cX6_love : ByteArray := prog_8_method_57_code
def yX6_love : MethodName := ⟨RX6, "love", "(III)I"⟩
abbrev cX6_silentAt : ByteArray := prog_8_method_58_code
def yX6_silentAt : MethodName := ⟨RX6, "silentAt", "(I)I"⟩
abbrev cX6_tens : ByteArray := prog_8_method_59_code
def yX6_tens : MethodName := ⟨RX6, "tens", "(I)J"⟩
abbrev cX6_worthFrom : ByteArray := prog_8_method_60_code
def yX6_worthFrom : MethodName := ⟨RX6, "worthFrom", "(I)J"⟩
abbrev cX6_curtain : ByteArray := prog_8_method_61_code
def yX6_curtain : MethodName := ⟨RX6, "curtain", "(II)J"⟩
abbrev cX6_stop : ByteArray := prog_8_method_62_code
def yX6_stop : MethodName := ⟨RX6, "stop", "()I"⟩
abbrev cX6_draw : ByteArray := prog_8_method_63_code
def yX6_draw : MethodName := ⟨RX6, "draw", "()I"⟩
abbrev cX6_evening : ByteArray := prog_8_method_64_code
def yX6_evening : MethodName := ⟨RX6, "evening", "(I)I"⟩
abbrev cX6_lot : ByteArray := prog_8_method_65_code
def yX6_lot : MethodName := ⟨RX6, "lot", "()I"⟩
abbrev cX6_seed : ByteArray := prog_8_method_66_code
def yX6_seed : MethodName := ⟨RX6, "seed", "(I)I"⟩
abbrev cX6_setsAside : ByteArray := prog_8_method_67_code
def yX6_setsAside : MethodName := ⟨RX6, "setsAside", "()V"⟩
abbrev cX6_laysBack : ByteArray := prog_8_method_68_code
def yX6_laysBack : MethodName := ⟨RX6, "laysBack", "()V"⟩
abbrev cX6_feed : ByteArray := prog_8_method_69_code
def yX6_feed : MethodName := ⟨RX6, "feed", "(II)I"⟩
abbrev cX6_wipe : ByteArray := prog_8_method_70_code
def yX6_wipe : MethodName := ⟨RX6, "wipe", "()I"⟩
abbrev cX6_isLetter : ByteArray := prog_8_method_71_code
def yX6_isLetter : MethodName := ⟨RX6, "isLetter", "(I)Z"⟩
abbrev cX6_isDigit : ByteArray := prog_8_method_72_code
def yX6_isDigit : MethodName := ⟨RX6, "isDigit", "(I)Z"⟩
abbrev cX6_nextToken : ByteArray := prog_8_method_73_code
def yX6_nextToken : MethodName := ⟨RX6, "nextToken", "()V"⟩
abbrev cX6_wordOf : ByteArray := prog_8_method_74_code
def yX6_wordOf : MethodName := ⟨RX6, "wordOf", "([C)I"⟩
abbrev cX6_takesNumber : ByteArray := prog_8_method_75_code
def yX6_takesNumber : MethodName := ⟨RX6, "takesNumber", "(II)I"⟩
abbrev cX6_readsBow : ByteArray := prog_8_method_76_code
def yX6_readsBow : MethodName := ⟨RX6, "readsBow", "(I)Z"⟩
abbrev cX6_readsContract : ByteArray := prog_8_method_77_code
def yX6_readsContract : MethodName := ⟨RX6, "readsContract", "()Z"⟩
abbrev cX6_readsItem : ByteArray := prog_8_method_78_code
def yX6_readsItem : MethodName := ⟨RX6, "readsItem", "()Z"⟩
abbrev cX6_text : ByteArray := prog_8_method_79_code
def yX6_text : MethodName := ⟨RX6, "text", "()I"⟩
abbrev cX6_isSpot : ByteArray := prog_8_method_80_code
def yX6_isSpot : MethodName := ⟨RX6, "isSpot", "(I)Z"⟩
abbrev cX6_hold : ByteArray := prog_8_method_81_code
def yX6_hold : MethodName := ⟨RX6, "hold", "(II)I"⟩
abbrev cX6_above : ByteArray := prog_8_method_82_code
def yX6_above : MethodName := ⟨RX6, "above", "(I)I"⟩
abbrev cX6_isSheet : ByteArray := prog_8_method_83_code
def yX6_isSheet : MethodName := ⟨RX6, "isSheet", "(I)Z"⟩
abbrev cX6_wrongSheet : ByteArray := prog_8_method_84_code
def yX6_wrongSheet : MethodName := ⟨RX6, "wrongSheet", "(I)I"⟩
abbrev cX6_as : ByteArray := prog_8_method_85_code
def yX6_as : MethodName := ⟨RX6, "as", "(II)I"⟩
abbrev cX6_sheet : ByteArray := prog_8_method_86_code
def yX6_sheet : MethodName := ⟨RX6, "sheet", "(III)I"⟩
abbrev cX6_write : ByteArray := prog_8_method_87_code
def yX6_write : MethodName := ⟨RX6, "write", "(III)I"⟩
abbrev cX6_copy : ByteArray := prog_8_method_88_code
def yX6_copy : MethodName := ⟨RX6, "copy", "(IIIII)I"⟩
abbrev cX6_load : ByteArray := prog_8_method_89_code
def yX6_load : MethodName := ⟨RX6, "load", "(I)I"⟩
abbrev cX6_comeOf : ByteArray := prog_8_method_90_code
def yX6_comeOf : MethodName := ⟨RX6, "comeOf", "(I)I"⟩
abbrev cX6_judge : ByteArray := prog_8_method_91_code
def yX6_judge : MethodName := ⟨RX6, "judge", "(I)I"⟩
abbrev cX6_loud : ByteArray := prog_8_method_92_code
def yX6_loud : MethodName := ⟨RX6, "loud", "(I)I"⟩
abbrev cX6_image : ByteArray := prog_8_method_93_code
def yX6_image : MethodName := ⟨RX6, "image", "()I"⟩
abbrev cX6_undo : ByteArray := prog_8_method_94_code
def yX6_undo : MethodName := ⟨RX6, "undo", "()I"⟩
abbrev cX6_tear : ByteArray := prog_8_method_95_code
def yX6_tear : MethodName := ⟨RX6, "tear", "()I"⟩
abbrev cX6_count : ByteArray := prog_8_method_96_code
def yX6_count : MethodName := ⟨RX6, "count", "(I)I"⟩
abbrev cX6_status : ByteArray := prog_8_method_97_code
def yX6_status : MethodName := ⟨RX6, "status", "(I)I"⟩
def RJ6 : String := "java/lang/Integer"
def TJ6 : u_T := fun k => match k with
  | _ => ("", "", "", false)
def tyJ6 : Nat → FieldType := fun k => match k with
  | _ => .int
abbrev wsJ60 : List Cond := u_ws RJ6 TJ6 0
theorem nmJ6 : ∀ a, a < 0 → ∀ b, b < 0 → a ≠ b → (TJ6 a).2.1 ≠ (TJ6 b).2.1 := by decide +kernel
theorem tyJ6_ok : ∀ k, k < 0 → parseFieldDescriptor (TJ6 k).2.2.1 = some (tyJ6 k) := by decide +kernel
abbrev cJ6_bitCount_0f7a4 : ByteArray := prog_9_method_49_code
def yJ6_bitCount_0f7a4 : MethodName := ⟨RJ6, "bitCount", "(I)I"⟩
def RJ9 : String := "java/lang/Math"
def TJ9 : u_T := fun k => match k with
  | _ => ("", "", "", false)
def tyJ9 : Nat → FieldType := fun k => match k with
  | _ => .int
abbrev wsJ90 : List Cond := u_ws RJ9 TJ9 0
theorem nmJ9 : ∀ a, a < 0 → ∀ b, b < 0 → a ≠ b → (TJ9 a).2.1 ≠ (TJ9 b).2.1 := by decide +kernel
theorem tyJ9_ok : ∀ k, k < 0 → parseFieldDescriptor (TJ9 k).2.2.1 = some (tyJ9 k) := by decide +kernel
abbrev cJ9_max_7cf53 : ByteArray := prog_10_method_65_code
def yJ9_max_7cf53 : MethodName := ⟨RJ9, "max", "(II)I"⟩
abbrev cJ9_max_f86c9 : ByteArray := prog_10_method_66_code
def yJ9_max_f86c9 : MethodName := ⟨RJ9, "max", "(JJ)J"⟩
abbrev cJ9_min_7cf53 : ByteArray := prog_10_method_69_code
def yJ9_min_7cf53 : MethodName := ⟨RJ9, "min", "(II)I"⟩
def RJ0 : String := "java/lang/String"
def TJ0 : u_T := fun k => match k with
  | _ => ("", "", "", false)
def tyJ0 : Nat → FieldType := fun k => match k with
  | _ => .int
abbrev wsJ00 : List Cond := u_ws RJ0 TJ0 0
theorem nmJ0 : ∀ a, a < 0 → ∀ b, b < 0 → a ≠ b → (TJ0 a).2.1 ≠ (TJ0 b).2.1 := by decide +kernel
theorem tyJ0_ok : ∀ k, k < 0 → parseFieldDescriptor (TJ0 k).2.2.1 = some (tyJ0 k) := by decide +kernel
abbrev cJ0_length_8abf5 : ByteArray := prog_11_method_54_code
def yJ0_length_8abf5 : MethodName := ⟨RJ0, "length", "()I"⟩
abbrev cJ0_charAt_5068e : ByteArray := prog_11_method_56_code
def yJ0_charAt_5068e : MethodName := ⟨RJ0, "charAt", "(I)C"⟩
abbrev cJ0_coder_7d493 : ByteArray := prog_11_method_152_code
def yJ0_coder_7d493 : MethodName := ⟨RJ0, "coder", "()B"⟩
abbrev cJ0_isLatin1_aae02 : ByteArray := prog_11_method_154_code
def yJ0_isLatin1_aae02 : MethodName := ⟨RJ0, "isLatin1", "()Z"⟩
abbrev cJ0_checkIndex_df160 : ByteArray := prog_11_method_155_code
def yJ0_checkIndex_df160 : MethodName := ⟨RJ0, "checkIndex", "(II)V"⟩
def RJ1 : String := "java/lang/StringLatin1"
def TJ1 : u_T := fun k => match k with
  | _ => ("", "", "", false)
def tyJ1 : Nat → FieldType := fun k => match k with
  | _ => .int
abbrev wsJ10 : List Cond := u_ws RJ1 TJ1 0
theorem nmJ1 : ∀ a, a < 0 → ∀ b, b < 0 → a ≠ b → (TJ1 a).2.1 ≠ (TJ1 b).2.1 := by decide +kernel
theorem tyJ1_ok : ∀ k, k < 0 → parseFieldDescriptor (TJ1 k).2.2.1 = some (tyJ1 k) := by decide +kernel
abbrev cJ1_charAt_3b067 : ByteArray := prog_12_method_2_code
def yJ1_charAt_3b067 : MethodName := ⟨RJ1, "charAt", "([BI)C"⟩
def RJ2 : String := "java/lang/StringUTF16"
def TJ2 : u_T := fun k => match k with
  | _ => ("", "", "", false)
def tyJ2 : Nat → FieldType := fun k => match k with
  | _ => .int
abbrev wsJ20 : List Cond := u_ws RJ2 TJ2 0
theorem nmJ2 : ∀ a, a < 0 → ∀ b, b < 0 → a ≠ b → (TJ2 a).2.1 ≠ (TJ2 b).2.1 := by decide +kernel
theorem tyJ2_ok : ∀ k, k < 0 → parseFieldDescriptor (TJ2 k).2.2.1 = some (tyJ2 k) := by decide +kernel
abbrev cJ2_getChar_3b067 : ByteArray := prog_13_method_5_code
def yJ2_getChar_3b067 : MethodName := ⟨RJ2, "getChar", "([BI)C"⟩
abbrev cJ2_length_9d52b : ByteArray := prog_13_method_6_code
def yJ2_length_9d52b : MethodName := ⟨RJ2, "length", "([B)I"⟩
abbrev cJ2_charAt_3b067 : ByteArray := prog_13_method_83_code
def yJ2_charAt_3b067 : MethodName := ⟨RJ2, "charAt", "([BI)C"⟩
abbrev cJ2_checkIndex_2214a : ByteArray := prog_13_method_91_code
def yJ2_checkIndex_2214a : MethodName := ⟨RJ2, "checkIndex", "(I[B)V"⟩
def RJ10 : String := "java/lang/System"
def TJ10 : u_T := fun k => match k with
  | _ => ("", "", "", false)
def tyJ10 : Nat → FieldType := fun k => match k with
  | _ => .int
abbrev wsJ100 : List Cond := u_ws RJ10 TJ10 0
theorem nmJ10 : ∀ a, a < 0 → ∀ b, b < 0 → a ≠ b → (TJ10 a).2.1 ≠ (TJ10 b).2.1 := by decide +kernel
theorem tyJ10_ok : ∀ k, k < 0 → parseFieldDescriptor (TJ10 k).2.2.1 = some (tyJ10 k) := by decide +kernel
def RJ3 : String := "jdk/internal/util/Preconditions"
def TJ3 : u_T := fun k => match k with
  | _ => ("", "", "", false)
def tyJ3 : Nat → FieldType := fun k => match k with
  | _ => .int
abbrev wsJ30 : List Cond := u_ws RJ3 TJ3 0
theorem nmJ3 : ∀ a, a < 0 → ∀ b, b < 0 → a ≠ b → (TJ3 a).2.1 ≠ (TJ3 b).2.1 := by decide +kernel
theorem tyJ3_ok : ∀ k, k < 0 → parseFieldDescriptor (TJ3 k).2.2.1 = some (tyJ3 k) := by decide +kernel
abbrev cJ3_checkIndex_8e157 : ByteArray := prog_15_method_11_code
def yJ3_checkIndex_8e157 : MethodName := ⟨RJ3, "checkIndex", "(IILjava/util/function/BiFunction;)I"⟩
def RL : String := "WhoBowsLastLaw"
abbrev cL_law : ByteArray := code
def yL_law : MethodName := ⟨RL, "law", "([I)Z"⟩
abbrev vwCl : List vw_C := [(RX1, TX1, 16), (RX2, TX2, 15), (RX3, TX3, 3), (RX4, TX4, 10), (RX5, TX5, 8), (RX6, TX6, 25)]
end
section
/-! SOUNDNESS 1: the worlds of the abstract machine, rows of instructions over them -/
def xR : Nat → String
  | 0 => RX0 | 1 => RX1 | 2 => RX2 | 3 => RX3 | 4 => RX4 | 5 => RX5 | 6 => RX6 | 7 => RL | 8 => RJ6 | 9 => RJ9 | 10 => RJ0 | 11 => RJ1 | _ => RJ3
/-- addresses: a0 the first cell of ours, b the script, aK and aV the texts and their bytes, tS the static arrays, fv what is no matter -/
abbrev xG : Type := Nat × Nat × va_G × ClassId × ClassId × (Nat → Nat) × (Nat → Nat) × (Nat → Nat) × Value
abbrev g_a (g : xG) : Nat := g.1
abbrev g_b (g : xG) : Nat := g.2.1
abbrev g_D (g : xG) : va_G := g.2.2.1
abbrev g_I (g : xG) : ClassId := g.2.2.2.1
abbrev g_C (g : xG) : ClassId := g.2.2.2.2.1
abbrev g_K (g : xG) : Nat → Nat := g.2.2.2.2.2.1
abbrev g_V (g : xG) : Nat → Nat := g.2.2.2.2.2.2.1
abbrev g_T (g : xG) : Nat → Nat := g.2.2.2.2.2.2.2.1
abbrev g_f (g : xG) : Value := g.2.2.2.2.2.2.2.2
abbrev g_A (g : xG) : Nat → Prop := fun q => g_a g ≤ q
def xcv (g : xG) : Value → Value
  | .ref q => if q ≤ 899 then .ref (g_a g + q) else if q = 900 then .ref (g_b g) else .ref (g_T g (q - 1000))
  | .retAddr w => .ref (g_K g (w % 16))
  | .float x => .ref (g_V g (x.toNat % 16))
  | .null => g_f g
  | v => v
abbrev LGC : Nat := XP.2.2.2.2.2.2.2.2
def xfv (g : xG) (σ : xM) (lg : Int64) (c : Nat) : Nat → Value
  | 0 => .int (σ c 0)
  | 1 => .long (if c = LGC then lg else 0)
  | 2 => .null
  | t + 3 => .ref (g_a g + t)
def xAt (g : xG) (σ : xM) (lg : Int64) (q : Nat) (x : xSh) (H : Heap) : Prop := match x with
  | .inl (ci, tags) => ∃ r : vw_C, vwCl[ci]? = some r ∧ r.2.2 = tags.length ∧ tags.length ≤ 90 ∧ t_OB (g_a g + q) ((g_D g).1 ci) r.2.2 ((g_D g).2 ci) H (fun k => xfv g σ lg (100 * q + k + 1) (tags.getD k 2))
  | .inr (ch, n) => H[g_a g + q]? = some (arrV (bif ch then g_C g else g_I g) n (fun j => .int (σ (100 * q) j)))
def xWd (g : xG) (sh : xS) (σ : xM) (lg : Int64) (H : Heap) : Prop := H.size = g_a g + sh.length ∧ ∀ q x, xnth sh q = some x → xAt g σ lg q x H
abbrev xKK (g : xG) (s : State) : Prop := va_K (g_D g) vwCl [(g_I g, .int), (g_C g, .char)] s
theorem xnth_get {α : Type} : ∀ (l : List α) (i : Nat), xnth l i = l[i]? := by
  intro l
  induction l with
  | nil => intro i; simp [xnth]
  | cons a l ih => intro i; cases i with
    | zero => simp [xnth]
    | succ i => simp [xnth, ih]
theorem xnth_lt {α : Type} {l : List α} {i : Nat} {a : α} (h : xnth l i = some a) : i < l.length := by
  rw [xnth_get] at h
  exact (List.getElem?_eq_some_iff.mp h).1
theorem xnth_set {α : Type} {l : List α} {i j : Nat} {a : α} : xnth (l.set i a) j = if i = j then (if i < l.length then some a else none) else xnth l j := by
  rw [xnth_get, xnth_get, List.getElem?_set]
theorem xfind_mem {α : Type} : ∀ {l : List (Nat × α)} {i : Nat} {a : α}, xfind l i = some a → (i, a) ∈ l := by
  intro l
  induction l with
  | nil => intro i a h; simp [xfind] at h
  | cons e l ih =>
    obtain ⟨j, b⟩ := e
    intro i a h
    rw [xfind] at h
    cases hb : Nat.beq j i with
    | true =>
      rw [hb] at h
      simp only [cond_true, Option.some.injEq] at h
      rw [Nat.eq_of_beq_eq_true hb, h]
      exact List.mem_cons_self
    | false =>
      rw [hb] at h
      exact List.mem_cons_of_mem _ (ih h)
theorem xq_f {c d : Nat} (h : ¬ c = d) : Nat.beq c d = false := Bool.eq_false_iff.mpr (fun z => h (Nat.eq_of_beq_eq_true z))
theorem xq_t (c : Nat) : Nat.beq c c = true := Nat.beq_refl c
/-- memories that tell the same -/
def xEq (f g : xM) : Prop := (∀ c, c % 100 = 0 → f c = g c) ∧ ∀ c, f c 0 = g c 0
theorem xEq.rf (f : xM) : xEq f f := ⟨fun _ _ => rfl, fun _ => rfl⟩
theorem xEq.tr {f g h : xM} (a : xEq f g) (b : xEq g h) : xEq f h := ⟨fun c hc => (a.1 c hc).trans (b.1 c hc), fun c => (a.2 c).trans (b.2 c)⟩
theorem xfv_eq {g : xG} {f f' : xM} (h : xEq f f') {lg : Int64} {c t : Nat} : xfv g f lg c t = xfv g f' lg c t := by
  unfold xfv
  split <;> simp [h.2 c]
theorem xWd_eq {g : xG} {sh : xS} {f f' : xM} {lg : Int64} {H : Heap} (h : xEq f f') (hw : xWd g sh f lg H) : xWd g sh f' lg H := by
  refine ⟨hw.1, fun q x hx => ?_⟩
  have h1 := hw.2 q x hx
  cases x with
  | inl o =>
    obtain ⟨ci, tags⟩ := o
    obtain ⟨r, r1, r2, r3, r4⟩ := h1
    exact ⟨r, r1, r2, r3, r4.to (fun k _ => xfv_eq h)⟩
  | inr o =>
    obtain ⟨ch, n⟩ := o
    simp only [xAt] at h1 ⊢
    rw [← h.1 (100 * q) (by omega)]
    exact h1
theorem xget_set (o : xO) (σ : xM) (c : Nat) (f : Nat → Int32) : ∀ d, xget (xset o c f) σ d = if c = d then f else xget o σ d := by
  intro d
  induction o with
  | nil =>
    simp only [xset, xget]
    by_cases h : c = d
    · subst h; rw [xq_t c, if_pos rfl]; rfl
    · have : Nat.beq c d = false := xq_f h
      rw [this, if_neg h]; rfl
  | cons e o ih =>
    obtain ⟨j, g⟩ := e
    rw [xset]
    by_cases hj : j = c
    · subst hj
      rw [xq_t j]
      simp only [cond_true, xget]
      by_cases h : j = d
      · subst h; rw [xq_t j, if_pos rfl]; rfl
      · have : Nat.beq j d = false := xq_f h
        rw [this, if_neg h]; rfl
    · have hb : Nat.beq j c = false := xq_f hj
      rw [hb]
      simp only [cond_false]
      cases hl : Nat.ble j c with
      | true =>
        simp only [cond_true, xget]
        rw [ih]
        by_cases h : c = d
        · subst h
          simp [hb]
        · rw [if_neg h, if_neg h]
      | false =>
        simp only [cond_false, xget]
        by_cases h : c = d
        · subst h; rw [xq_t c, if_pos rfl]; rfl
        · have : Nat.beq c d = false := xq_f h
          rw [this, if_neg h, cond_false]
theorem xget_mrg (o : xO) (σ : xM) : ∀ l : xO, xget (xmrg o l) σ = xget l (xget o σ) := by
  intro l
  induction l with
  | nil => rfl
  | cons e l ih =>
    obtain ⟨c, f⟩ := e
    funext d
    rw [xmrg, xget_set, xget, ih]
    by_cases h : c = d
    · subst h; rw [xq_t c, if_pos rfl]; rfl
    · have : Nat.beq c d = false := xq_f h
      rw [this, if_neg h]; rfl
theorem xdf_eq (c : Nat) (f : Nat → Int32) : (c % 100 = 0 → xdf c f = f) ∧ xdf c f 0 = f 0 := by
  unfold xdf
  cases h : Nat.beq (c % 100) 0 with
  | true => exact ⟨fun _ => rfl, rfl⟩
  | false => exact ⟨fun hc => (by rw [hc] at h; cases h), rfl⟩
theorem xaddI_eq {K : xO → xO} {σ : xM} (hK : ∀ o, xEq (xget (K o) σ) (xget o σ)) (c : Nat) : ∀ o, xEq (xget (xaddI K σ c o) σ) (xget o σ) := by
  have ins : ∀ o : xO, xEq (xget ((c, xdf c (xget o σ c)) :: K o) σ) (xget o σ) := by
    intro o
    refine ⟨fun d hd => ?_, fun d => ?_⟩
    · rw [xget]
      by_cases h : c = d
      · subst h; rw [xq_t c]; exact (xdf_eq c _).1 hd
      · rw [xq_f h]; exact (hK o).1 d hd
    · rw [xget]
      by_cases h : c = d
      · subst h; rw [xq_t c]; exact (xdf_eq c _).2
      · rw [xq_f h]; exact (hK o).2 d
  intro o
  induction o with
  | nil => exact ins []
  | cons e o ih =>
    obtain ⟨j, f⟩ := e
    rw [xaddI]
    cases h1 : Nat.beq j c with
    | true =>
      refine ⟨fun d hd => ?_, fun d => ?_⟩
      · rw [cond_true, xget, xget]
        cases Nat.beq j d
        · exact (hK o).1 d hd
        · rfl
      · rw [cond_true, xget, xget]
        cases Nat.beq j d
        · exact (hK o).2 d
        · rfl
    | false =>
      rw [cond_false]
      cases h2 : Nat.ble j c with
      | true =>
        refine ⟨fun d hd => ?_, fun d => ?_⟩
        · rw [cond_true, xget, xget]
          cases Nat.beq j d
          · exact ih.1 d hd
          · rfl
        · rw [cond_true, xget, xget]
          cases Nat.beq j d
          · exact ih.2 d
          · rfl
      | false => exact ins ((j, f) :: o)
theorem xadd_eq (σ : xM) : ∀ (cs : List Nat) (o : xO), xEq (xget (xadd σ cs o) σ) (xget o σ) := by
  intro cs
  induction cs with
  | nil => intro o; exact xEq.rf _
  | cons c cs ih => intro o; exact xaddI_eq ih c o
theorem xaddr_eq (σ : xM) (lv : xL) : ∀ (rs : List Nat) (o : xO), xEq (xget (xaddr σ lv rs o) σ) (xget o σ) := by
  intro rs
  induction rs with
  | nil => intro o; exact xEq.rf _
  | cons j rs ih =>
    intro o
    rw [xaddr]
    split
    · exact (ih _).tr (xadd_eq σ _ o)
    · exact ih o
/-- writing a cell -/
theorem xWd_arr {g : xG} {sh : xS} {o : xO} {σ : xM} {lg : Int64} {H H1 : Heap} {q n : Nat} {ch : Bool} {f : Nat → Int32} (hw : xWd g sh (xget o σ) lg H) (hq : xnth sh q = some (.inr (ch, n)))
    (h1 : H1[g_a g + q]? = some (arrV (bif ch then g_C g else g_I g) n (fun j => .int (f j)))) (hz : H1.size = H.size) (ho : ∀ a, a ≠ g_a g + q → H1[a]? = H[a]?) : xWd g sh (xget (xset o (100 * q) f) σ) lg H1 := by
  refine ⟨hz.trans hw.1, fun q' x hx => ?_⟩
  have h2 := hw.2 q' x hx
  cases x with
  | inl p =>
    obtain ⟨ci, tags⟩ := p
    obtain ⟨r, r1, r2, r3, r4⟩ := h2
    have hne : q' ≠ q := by rintro rfl; rw [hq] at hx; cases hx
    refine ⟨r, r1, r2, r3, (r4.kept (ho _ (by omega))).to (fun k hk => ?_)⟩
    unfold xfv
    split
    · rw [xget_set, if_neg (by omega)]
    · rfl
    · rfl
    · rfl
  | inr p =>
    obtain ⟨ch', n'⟩ := p
    simp only [xAt] at h2 ⊢
    rw [xget_set]
    by_cases h : q' = q
    · subst h
      rw [hq] at hx
      cases hx
      rw [if_pos rfl]
      exact h1
    · rw [if_neg (by omega), ho _ (by omega)]
      exact h2
theorem xWd_fld {g : xG} {sh sh' : xS} {o : xO} {σ σ' : xM} {lg lg' : Int64} {H H1 : Heap} {q ci k : Nat} {tags tags' : List Nat} {v : Value} (hw : xWd g sh σ lg H) (hq : xnth sh q = some (.inl (ci, tags))) (hk : k < tags.length)
    (hsh : sh' = sh.set q (.inl (ci, tags'))) (htl : tags'.length = tags.length) (htj : ∀ j, j ≠ k → tags'.getD j 2 = tags.getD j 2)
    (hself : xfv g σ' lg' (100 * q + k + 1) (tags'.getD k 2) = v) (hoth : ∀ c t, c ≠ 100 * q + k + 1 → xfv g σ' lg' c t = xfv g σ lg c t) (harr : ∀ c, c % 100 = 0 → σ' c = σ c)
    (h1 : ∃ r : vw_C, vwCl[ci]? = some r ∧ r.2.2 = tags.length ∧ t_OB (g_a g + q) ((g_D g).1 ci) r.2.2 ((g_D g).2 ci) H1 (updV (fun k => xfv g σ lg (100 * q + k + 1) (tags.getD k 2)) k v)) (hz : H1.size = H.size) (ho : ∀ a, a ≠ g_a g + q → H1[a]? = H[a]?) : xWd g sh' σ' lg' H1 := by
  subst hsh
  have hql := xnth_lt hq
  have h90 : tags.length ≤ 90 := (hw.2 q _ hq).choose_spec.2.2.1
  refine ⟨by rw [List.length_set]; exact hz.trans hw.1, fun q' x hx => ?_⟩
  rw [xnth_set] at hx
  by_cases h : q = q'
  · subst h
    rw [if_pos rfl, if_pos hql] at hx
    cases hx
    obtain ⟨r, r1, r2, r4⟩ := h1
    refine ⟨r, r1, r2.trans htl.symm, by omega, r4.to (fun j hj => ?_)⟩
    unfold updV
    by_cases hjk : j = k
    · subst hjk
      rw [if_pos rfl, hself]
    · rw [if_neg hjk, hoth _ _ (by omega), htj j hjk]
  · rw [if_neg h] at hx
    have h2 := hw.2 q' x hx
    cases x with
    | inl p =>
      obtain ⟨ci', tg⟩ := p
      obtain ⟨r, r1, r2, r3, r4⟩ := h2
      refine ⟨r, r1, r2, r3, (r4.kept (ho _ (by omega))).to (fun j hj => ?_)⟩
      rw [hoth]
      omega
    | inr p =>
      obtain ⟨ch', n'⟩ := p
      simp only [xAt] at h2 ⊢
      rw [harr _ (by omega), ho _ (by omega)]
      exact h2
end
section
/-! SOUNDNESS 2: rows of the heap -/
def xTy : Nat → FieldType
  | 0 => .int
  | 1 => .char
  | _ => .byte
def xLd : Nat → Instr
  | 0 => .iaload
  | 1 => .caload
  | _ => .baload
def xAr (s : State) (H : Heap) (a kd n : Nat) (f : Nat → Int32) : Prop := ∃ cell : Cell, H[a]? = some cell ∧ s.isArrayOf cell (xTy kd) ∧ cell.vm ≠ .unknown ∧ n ≤ cell.slots.size ∧ cell.slots.size.toInt32 = nI n ∧ ∀ j, j < n → cell.slots[j]? = some (.int (f j))
def xlens : List Nat := xstrs.map (fun l => l.length)
def xsix : List Nat := [135, 137, 139, 141, 143, 145, 147, 149, 151, 153, 155, 157, 159, 161, 163, 164]
def xstx : List String := ["bow", "rowed", "rising", "falling", "last", "shielded", "child", "tires", "silent", "gain", "loss", "train", "contract", "love", "seconds", "ahead"]
def xNWm : List Cond := [.methodLinkNest RX5 15 yX2_init RX5, .methodLinkNest RX5 28 yX1_init RX5, .methodLinkNest RX5 35 yX4_init RX5, .methodLinkNest RX5 42 yX3_init RX5, .methodLinkNest RX2 64 yX5_isIn RX5, .methodLinkNest RX3 21 yX5_isIn RX5, .methodLinkNest RX4 51 yX5_isIn RX5]
def xNWf : Cond := .fieldLinkNest RX4 90 RX5 "MOST_OF_RULE" "[I" RX5
/-- what stands outside and stays -/
def xST (g : xG) (X : xX) (s : State) (H : Heap) : Prop :=
  (va_Z RX5 "MOST_OF_RULE" "[I" (.ref (g_T g 0)) (g_A g) s H ∧ va_T .int (g_T g 0) 5 (fun j => .int ((xstats.getD 0 []).getD j 0)) (g_A g) s H) ∧
  (va_Z RX0 "ABOVE" "[I" (.ref (g_T g 1)) (g_A g) s H ∧ va_T .int (g_T g 1) 7 (fun j => .int ((xstats.getD 1 []).getD j 0)) (g_A g) s H) ∧
  (va_Z RJ0 "COMPACT_STRINGS" "Z" (.int 1) (g_A g) s H ∧ va_Z RJ3 "SIOOBE_FORMATTER" "Ljava/util/function/BiFunction;" (g_f g) (g_A g) s H ∧ (g_f g = .null ∨ ∃ a, g_f g = .ref a)) ∧
  (vk_S 16 xlens xstrs (g_K g) (g_V g) (g_A g) s H ∧ ∀ i, i < 16 → vk_R RX4 (xsix.getD i 0) (xstx.getD i "") (g_K g i) s) ∧
  ((∀ w ∈ xNWm, va_Nw w s) ∧ va_Nw xNWf s) ∧
  (va_X (g_b g) X.1 X.2 s H ∧ g_b g < g_a g ∧ X.1 ≤ 3072)
theorem xST_move {g : xG} {X : xX} {s U : State} {H1 : Heap} (h : xST g X s s.heap) (hs : g_a g ≤ s.heap.size) (hW : s.WarmedH U.vm) (hk : ∀ q : Nat, q < s.heap.size → ¬ g_A g q → H1[q]? = s.heap[q]?) : xST g X U H1 := by
  obtain ⟨⟨a1, a2⟩, ⟨b1, b2⟩, ⟨c1, c2, c3⟩, ⟨d1, d2⟩, ⟨e1, e2⟩, f1, f2, f3⟩ := h
  have hv := hW.alike
  refine ⟨⟨(a1.moved hv).kept hk, (a2.moved hv).kept hk⟩, ⟨(b1.moved hv).kept hk, (b2.moved hv).kept hk⟩, ⟨(c1.moved hv).kept hk, (c2.moved hv).kept hk, c3⟩, ⟨(d1.moved hv).kept hk, fun i hi => (d2 i hi).warm hW⟩, ⟨fun w hw => ?_, e2.warmF hW⟩, (f1.moved hv).kept (hk _ (by omega) (by show ¬ g_a g ≤ g_b g; omega)), f2, f3⟩
  have h1 := e1 w hw
  simp only [xNWm, List.mem_cons, List.not_mem_nil, or_false] at hw
  rcases hw with rfl | rfl | rfl | rfl | rfl | rfl | rfl <;> exact h1.warmM hW
section S2
variable {p : Program} {l : Launch} {e : Env} {R : Room} {s : State} {m : MethodId} {args : Array Value} {below : List Frame} {meth : Method} {c : Code} {H : Heap} {locs : List Loc} {cells slots : Nat} {Q : State → Prop}
variable {cc : ByteArray} {pc : Nat} {ls : Array Slot} {rest : List Value} {g : xG} {sh : xS} {σ : xM} {o : xO} {lg : Int64} {H0 : Heap} {X : xX} {q n kd : Nat} {f : Nat → Int32} {Ts : List Cond}
theorem x_ald (hx : p.tables.exec = Jvm.exec) (hb : c.code = cc) {a : Nat} (h : xAr s H a kd n f) {i : Int32} (hi : inr i n) (hdg : decode cc pc = .ok (xLd kd, 1))
    (kk : W p l e R s m args below meth c H locs cells slots Q (F0 m (pc + 1) ls (.int (f i.toNatClampNeg) :: rest))) : W p l e R s m args below meth c H locs cells slots Q (F0 m pc ls (.int i :: .ref a :: rest)) := by
  obtain ⟨cell, h1, h2, h3, h4, -, h6⟩ := h
  have hn : i.toNatClampNeg < n := by
    show i.toInt.toNat < n
    have := hi.1
    have := hi.2
    omega
  have hb2 : ¬ (i < 0 ∨ cell.slots.size ≤ i.toNatClampNeg) := by
    rintro (h | h)
    · have := Int32.lt_iff_toInt_lt.mp h
      have h0 : (0 : Int32).toInt = 0 := rfl
      have := hi.1
      omega
    · omega
  rcases kd with _ | _ | k
  · exact W.iald hx hb h1 h2 h3 hb2 (h6 _ hn) rfl rfl hdg kk
  · exact W.cald hx hb h1 h2 h3 hb2 (h6 _ hn) rfl rfl hdg kk
  · exact W.bald hx hb h1 h2 h3 hb2 (h6 _ hn) rfl rfl hdg kk
theorem x_alen (hx : p.tables.exec = Jvm.exec) (hb : c.code = cc) {a : Nat} (h : xAr s H a kd n f) (hdg : decode cc pc = .ok (.arraylength, 1))
    (kk : W p l e R s m args below meth c H locs cells slots Q (F0 m (pc + 1) ls (.int (nI n) :: rest))) : W p l e R s m args below meth c H locs cells slots Q (F0 m pc ls (.ref a :: rest)) := by
  obtain ⟨cell, h1, h2, -, -, h5, -⟩ := h
  exact W.alen hx hb h1 h2 h5 rfl rfl hdg kk
theorem x_world_arr (hK : xKK g s) (hw : xWd g sh σ lg H) {ch : Bool} (hq : xnth sh q = some (.inr (ch, n))) : xAr s H (g_a g + q) (bif ch then 1 else 0) n (σ (100 * q)) := by
  have h1 := hw.2 q _ hq
  simp only [xAt] at h1
  refine ⟨_, h1, ?_, fun h => (by cases h), (by rw [arrV_size]; exact Nat.le_refl _), (by rw [arrV_size]; rfl), fun j hj => arrV_read _ _ hj⟩
  cases ch with
  | false => exact (hK.2 0 _ rfl).1 n _
  | true => exact (hK.2 1 _ rfl).1 n _
theorem x_T {ty t N : Nat} {f : Nat → Int32} (hs : g_a g ≤ s.heap.size) (h : va_T (xTy ty) t N (fun j => .int (f j)) (g_A g) s s.heap) (hS : va_S (g_A g) s.heap H locs) : xAr s H t ty N f := by
  obtain ⟨cell, h1, h2, h3, h4, h5, h6, h7⟩ := h.kept hS.2.1
  exact ⟨cell, h1, h2, h3, h4, h5, h6⟩
theorem x_arr (hs : g_a g ≤ s.heap.size) (hK : xKK g s) (hT : xST g X s s.heap) (hS : va_S (g_A g) s.heap H locs) (hw : xWd g sh (xget o σ) lg H) {v : Value} (h : xarr XP X σ sh o v = some (kd, n, f)) : ∃ a, xcv g v = .ref a ∧ xAr s H a kd n f := by
  obtain ⟨⟨-, a2⟩, ⟨-, b2⟩, -, ⟨d1, -⟩, -, f1, f2, f3⟩ := hT
  unfold xarr at h
  split at h
  · rename_i q
    cases h1 : Nat.ble q 899 with
    | true =>
      rw [h1, cond_true] at h
      have hq : q ≤ 899 := Nat.le_of_ble_eq_true h1
      split at h
      · rename_i ch n' hx
        simp only [Option.some.injEq, Prod.mk.injEq] at h
        obtain ⟨rfl, rfl, rfl⟩ := h
        exact ⟨_, by rw [xcv, if_pos hq], x_world_arr hK hw hx⟩
      · cases h
    | false =>
      rw [h1, cond_false] at h
      have hq : ¬ q ≤ 899 := fun z => by rw [Nat.ble_eq_true_of_le z] at h1; cases h1
      cases h2 : Nat.beq q 900 with
      | true =>
        rw [h2, cond_true] at h
        have hq2 : q = 900 := Nat.eq_of_beq_eq_true h2
        simp only [Option.some.injEq, Prod.mk.injEq] at h
        obtain ⟨rfl, rfl, rfl⟩ := h
        refine ⟨g_b g, by rw [xcv, if_neg hq, if_pos hq2], ?_⟩
        obtain ⟨scr, g1, g2, g3, g4, g5⟩ := f1
        refine ⟨scr, by rw [hS.2.1 _ (by omega) (by show ¬ g_a g ≤ g_b g; omega)]; exact g1, g2, g3, by omega, by rw [g4]; rfl, g5⟩
      | false =>
        rw [h2, cond_false] at h
        have hq2 : ¬ q = 900 := fun z => by rw [z] at h2; cases h2
        split at h
        · rename_i l' hl
          simp only [Option.some.injEq, Prod.mk.injEq] at h
          obtain ⟨rfl, rfl, rfl⟩ := h
          refine ⟨g_T g (q - 1000), by rw [xcv, if_neg hq, if_neg hq2], ?_⟩
          have hl2 : q - 1000 < 2 := xnth_lt hl
          rcases (show ∀ k : Nat, k < 2 → k = 0 ∨ k = 1 by omega) _ hl2 with h0 | h0
          · rw [h0] at hl ⊢
            have e : l' = xstats.getD 0 [] := (Option.some.inj hl).symm
            rw [e]
            exact x_T (ty := 0) (f := fun j => (xstats.getD 0 []).getD j 0) hs a2 hS
          · rw [h0] at hl ⊢
            have e : l' = xstats.getD 1 [] := (Option.some.inj hl).symm
            rw [e]
            exact x_T (ty := 0) (f := fun j => (xstats.getD 1 []).getD j 0) hs b2 hS
        · cases h
  · rename_i b
    simp only [Option.some.injEq, Prod.mk.injEq] at h
    obtain ⟨rfl, rfl, rfl⟩ := h
    refine ⟨g_V g (b.toNat % 16), rfl, ?_⟩
    have h16 : XP.2.2.2.2.2.2.2.1.length = 16 := rfl
    rw [h16]
    have hlt : b.toNat % 16 < 16 := Nat.mod_lt _ (by decide)
    have h1 := (d1.1 _ hlt).2.2.2
    have e : xlens.getD (b.toNat % 16) 0 = (xstrs.getD (b.toNat % 16) []).length := by
      generalize b.toNat % 16 = k at hlt ⊢
      have : ∀ k, k < 16 → xlens.getD k 0 = (xstrs.getD k []).length := by decide +kernel
      exact this k hlt
    rw [e] at h1
    exact x_T (ty := 2) (f := fun j => (xstrs.getD (b.toNat % 16) []).getD j 0) hs h1 hS
  · cases h
theorem x_ast (hx : p.tables.exec = Jvm.exec) (hb : c.code = cc) (hK : xKK g s) (hw : xWd g sh (xget o σ) lg H) (hH0 : g_a g ≤ H0.size) (hS : va_S (g_A g) H0 H locs) {ch : Bool} (hq : xnth sh q = some (.inr (ch, n))) {i x : Int32} (hi : inr i n) (hdg : decode cc pc = .ok (bif ch then .castore else .iastore, 1))
    (kk : ∀ (H1 : Heap) (locs1 : List Loc), xWd g sh (xget (xset o (100 * q) (upd (xget o σ (100 * q)) i.toNatClampNeg (xnar (bif ch then 1 else 0) x))) σ) lg H1 → va_S (g_A g) H0 H1 locs1 → W p l e R s m args below meth c H1 locs1 cells slots Q (F0 m (pc + 1) ls rest)) : W p l e R s m args below meth c H locs cells slots Q (F0 m pc ls (.int x :: .int i :: .ref (g_a g + q) :: rest)) := by
  have h1 := hw.2 q _ hq
  simp only [xAt] at h1
  have hbnd : ∀ cI : ClassId, ∀ z : Nat → Value, ¬ (i < 0 ∨ (arrV cI n z).slots.size ≤ i.toNatClampNeg) := by
    intro cI z
    rw [arrV_size]
    rintro (h | h)
    · have := Int32.lt_iff_toInt_lt.mp h
      have h0 : (0 : Int32).toInt = 0 := rfl
      have := hi.1
      omega
    · have h2 : n ≤ i.toInt.toNat := h
      have := hi.1
      have := hi.2
      omega
  have fin : ∀ (v : Int32) (cI : ClassId) (H1 : Heap), H1[g_a g + q]? = some ((arrV cI n (fun j => .int (xget o σ (100 * q) j))).setSlot i.toNatClampNeg (.int v)) → H1[g_a g + q]? = some (arrV cI n (fun j => .int (upd (xget o σ (100 * q)) i.toNatClampNeg v j))) := by
    intro v cI H1 h
    rw [h, arrV_store]
    congr 2
    funext j
    by_cases hj : j = i.toNatClampNeg <;> simp [updV, upd, hj]
  cases ch with
  | false =>
    refine W.iast hx hb h1 ((hK.2 0 _ rfl).1 n _) (fun q => by cases q) (hbnd _ _) rfl rfl hdg fun H1 e z oq => ?_
    refine kk H1 _ (xWd_arr (f := upd (xget o σ (100 * q)) i.toNatClampNeg x) hw hq (fin x _ H1 e) z oq) (hS.put z oq (by show g_a g ≤ g_a g + q; omega))
  | true =>
    refine W.cast hx hb h1 ((hK.2 1 _ rfl).1 n _) (fun q => by cases q) (hbnd _ _) rfl rfl hdg fun H1 e z oq => ?_
    refine kk H1 _ (xWd_arr (f := upd (xget o σ (100 * q)) i.toNatClampNeg (vp_nar .char x)) hw hq (fin _ _ H1 e) z oq) (hS.put z oq (by show g_a g ≤ g_a g + q; omega))
theorem x_get (hx : p.tables.exec = Jvm.exec) (hb : c.code = cc) (hts : ∀ w ∈ Ts, w.before args s = true) {own C : String} {T : u_T} {N ci k index : Nat} {tags : List Nat} (hown : s.vm.findClass own = some m.cls) (hK : xKK g s) (hw : xWd g sh σ lg H) (hq : xnth sh q = some (.inl (ci, tags))) (hc : vwCl[ci]? = some (C, T, N)) (hin : ∀ w ∈ u_ws C T N, w ∈ Ts) (hk : k < N)
    (hlink : (Cond.fieldLink own index (T k).1 (T k).2.1 (T k).2.2.1).before args s = true) (hdg : decode cc pc = .ok (.getfield index, 3))
    (kk : W p l e R s m args below meth c H locs cells slots Q (F0 m (pc + 3) ls (xfv g σ lg (100 * q + k + 1) (tags.getD k 2) :: rest))) : W p l e R s m args below meth c H locs cells slots Q (F0 m pc ls (.ref (g_a g + q) :: rest)) := by
  obtain ⟨r, h1, r2, r3, cell, q1, q2, q3, q4⟩ := hw.2 q _ hq
  have hr : r = (C, T, N) := Option.some.inj (h1.symm.trans hc)
  subst hr
  obtain ⟨hS, hfc, kC, hkC, hkind⟩ := hK.1 ci _ hc
  obtain ⟨cf, kf, fi, fd, hi, hsl⟩ := hS k hk
  refine W.getf hx hb hown hlink hi (u_facts hfc hkC (u_lays hts hin hk) hi).1 q1 (by rw [q3]; exact fun h => by cases h) ?_ rfl rfl hdg kk
  rw [hsl, q4 k hk]
theorem x_put (hx : p.tables.exec = Jvm.exec) (hb : c.code = cc) (hts : ∀ w ∈ Ts, w.before args s = true) {own C : String} {T : u_T} {N ci k index : Nat} {tags : List Nat} (ty0 : Nat → FieldType) (hty : ∀ k, k < N → parseFieldDescriptor (T k).2.2.1 = some (ty0 k)) (hnm : ∀ a, a < N → ∀ b, b < N → a ≠ b → (T a).2.1 ≠ (T b).2.1) (hown : s.vm.findClass own = some m.cls) (hK : xKK g s) (hw : xWd g sh σ lg H) (hS0 : va_S (g_A g) H0 H locs) (hq : xnth sh q = some (.inl (ci, tags))) (hc : vwCl[ci]? = some (C, T, N)) (hin : ∀ w ∈ u_ws C T N, w ∈ Ts) (hk : k < N)
    (hlink : (Cond.fieldLink own index (T k).1 (T k).2.1 (T k).2.2.1).before args s = true) {ty : FieldType} {v : Value} (hd : parseFieldDescriptor (T k).2.2.1 = some ty) (hn : narrow ty v = v) (hfit : fits ty v = true) (hfin : (T k).2.2.2 = false ∨ ((T k).2.2.2 = true ∧ meth.name = "<init>" ∧ (T k).1 = own)) (hdg : decode cc pc = .ok (.putfield index, 3))
    (kk : ∀ (H1 : Heap) (locs1 : List Loc), (∃ r : vw_C, vwCl[ci]? = some r ∧ r.2.2 = tags.length ∧ t_OB (g_a g + q) ((g_D g).1 ci) r.2.2 ((g_D g).2 ci) H1 (updV (fun k => xfv g σ lg (100 * q + k + 1) (tags.getD k 2)) k v)) → H1.size = H.size → (∀ a, a ≠ g_a g + q → H1[a]? = H[a]?) → va_S (g_A g) H0 H1 locs1 → W p l e R s m args below meth c H1 locs1 cells slots Q (F0 m (pc + 3) ls rest)) : W p l e R s m args below meth c H locs cells slots Q (F0 m pc ls (v :: .ref (g_a g + q) :: rest)) := by
  have hap := va_apart (own := own) hts hin ty0 hty hnm hK hc
  obtain ⟨r, h1, r2, r3, cell, q1, q2, q3, q4⟩ := hw.2 q _ hq
  have hr : r = (C, T, N) := Option.some.inj (h1.symm.trans hc)
  subst hr
  obtain ⟨hS, hfc, kC, hkC, hkind⟩ := hK.1 ci _ hc
  obtain ⟨cf, kf, fi, fd, hi, hsl⟩ := hS k hk
  have hst := (u_facts hfc hkC (u_lays hts hin hk) hi).1
  have hAq : g_A g (g_a g + q) := by show g_a g ≤ g_a g + q; omega
  have hlay := hts _ (hin _ (u_in_lay hk))
  unfold u_lay at hlay
  rcases hfin with hfin | ⟨hfin, hin2, hdecl⟩
  · rw [if_neg (by rw [hfin]; decide)] at hlay
    have h6 := u_store hfc hkC hkind hlay hi hd hn hfit
    refine W.putK hx hb (f := fd) ⟨hown, hlink, ⟨_, _, _, hi⟩, hst⟩ (by rw [q2]; exact h6) q1 q3 (by rw [hsl]; exact k2_hasslot (q4 k hk)) rfl rfl hdg fun H' e1 e2 e3 => ?_
    rw [hsl] at e1 ⊢
    exact kk H' _ ⟨_, hc, r2, _, e1, q2, q3, t_set q4 hap hk v⟩ e2 e3 (hS0.put e2 e3 hAq)
  · rw [if_pos hfin] at hlay
    have hcf : m.cls = cf := by
      obtain ⟨_, _, c', _, _, _, -, -, hf', -, -, -, hown2, -⟩ := Cond.laysFinal_spec hlay
      have e1 : c' = cf := by have := hi.symm.trans hf'; simp at this; exact this.1.symm
      rw [hdecl] at hown2
      rw [← e1]; exact Option.some.inj (hown.symm.trans hown2)
    have h6 := u_fits hfc hkC hkind (Or.inr hlay) hi hd hn hfit
    refine W.putFinK hx hb hown hlink hi hst hcf hin2 (by rw [q2]; exact h6) q1 q3 (by rw [hsl]; exact k2_hasslot (q4 k hk)) rfl rfl hdg fun H' e1 e2 e3 => ?_
    rw [hsl] at e1 ⊢
    exact kk H' _ ⟨_, hc, r2, _, e1, q2, q3, t_set q4 hap hk v⟩ e2 e3 (hS0.put e2 e3 hAq)
end S2
end
section
/-! SOUNDNESS 3: a simple step -/
def xTs : List Cond := lw_tbl.filter goodWord
theorem xTs_in {w : Cond} (h : w ∈ lw_tbl) (hg : goodWord w = true) : w ∈ xTs := List.mem_filter.mpr ⟨h, hg⟩
def xcl (g : xG) (lv : xL) : List (Nat × Value) := lv.map (fun q => (q.1, xcv g q.2))
def xsz : xSh → Nat
  | .inl o => o.2.length
  | .inr a => a.2
def xsl (sh : xS) : Nat := (sh.map xsz).sum
def xrp (pc : Nat) : Nat := if 100000 ≤ pc then pc - 100000 else pc
theorem xrp_lt {pc : Nat} (h : pc < 100000) : xrp pc = pc := by unfold xrp; rw [if_neg (by omega)]
theorem xrp_nx {M : xT} {pc : Nat} (h : pc < 100000) : xrp (xnx M pc) = pc := by
  unfold xnx xrp
  cases (xfind M.2.2.1 pc).isSome with
  | true => rw [cond_true, if_pos (by omega)]; omega
  | false => rw [cond_false, if_neg (by omega)]
/-- the length of an instruction -/
def xlen : Instr → Nat
  | .aload _ => 2 | .iload _ => 2 | .lload _ => 2 | .astore _ => 2 | .istore _ => 2 | .lstore _ => 2
  | .bipush _ => 2 | .sipush _ => 3 | .ldc _ => 2 | .ldc_w _ => 3 | .ldc2_w _ => 3 | .iinc _ _ => 3 | .goto _ => 3 | .ifCond _ _ => 3 | .if_icmp _ _ => 3
  | .getfield _ => 3 | .putfield _ => 3 | .getstatic _ => 3 | .newarray _ => 2 | .new _ => 3 | .invokestatic _ => 3 | .invokevirtual _ => 3 | .invokespecial _ => 3
  | _ => 1
/-- a row of a method's table is right -/
def xen1 (pc : Nat) (i : Instr) (tgt : Nat) (cv : Int32) (cs : List (Int32 × Nat)) : Bool := match i with
  | .goto off => decide ((pc : Int) + off = (tgt : Int))
  | .ifCond _ off => decide ((pc : Int) + off = (tgt : Int))
  | .if_icmp _ off => decide ((pc : Int) + off = (tgt : Int))
  | .iconst n => decide (Int32.ofInt n = cv)
  | .bipush n => decide ((Int8.ofInt n).toInt32 = cv)
  | .sipush n => decide ((Int16.ofInt n).toInt32 = cv)
  | .iinc _ n => decide (Int32.ofInt n = cv)
  | .tableswitch d lo hi offs => decide ((pc : Int) + d = (tgt : Int)) && decide (cs.length = offs.size) && decide (hi + 1 = lo + (cs.length : Int)) && (List.range cs.length).all (fun j => decide ((cs.getD j (0, 0)).1.toInt = lo + (j : Int)) && decide ((pc : Int) + offs.getD j 0 = (((cs.getD j (0, 0)).2 : Nat) : Int)))
  | _ => true
def xen2 (i : Instr) (ln : Nat) : Bool := match i with
  | .tableswitch _ _ _ _ => true
  | _ => Nat.beq ln (xlen i)
def xen3 (nL : Nat) (i : Instr) : Bool := match i with
  | .istore j => decide (j < nL)
  | .astore j => decide (j < nL)
  | .lstore j => decide (j + 1 < nL)
  | .istore_n j => decide ((j : Nat) < nL)
  | .astore_n j => decide ((j : Nat) < nL)
  | .lstore_n j => decide ((j : Nat) + 1 < nL)
  | _ => true
def xenok (cc : ByteArray) (nL : Nat) (r : xEn) : Bool := xen3 nL r.2.1 && decide (decode cc r.1 = .ok (r.2.1, r.2.2.1)) && (Nat.ble (r.1 + r.2.2.1) 99999 && (Nat.ble r.2.2.2.1 99999 && (r.2.2.2.2.2.all (fun x => Nat.ble x.2 99999) && (xen1 r.1 r.2.1 r.2.2.2.1 r.2.2.2.2.1 r.2.2.2.2.2 && xen2 r.2.1 r.2.2.1))))
def xmok (cc : ByteArray) (nL : Nat) (M : xT) : Prop := (∀ ch ∈ M.2.1, ∀ r ∈ ch, xenok cc nL r = true) ∧ ∀ x ∈ M.2.2.1, x.1 < 100000
/-- what the tables mean -/
def xTF1 : Prop := ∀ own idx ci k ty fin, xfind (xFT.getD own []) idx = some (ci, k, ty, fin) → (∃ C T N, vwCl[ci]? = some (C, T, N) ∧ k < N ∧ Cond.fieldLink (xR own) idx (T k).1 (T k).2.1 (T k).2.2.1 ∈ xTs ∧ parseFieldDescriptor (T k).2.2.1 = some ty ∧ (T k).2.2.2 = fin) ∨ (ci = 100 ∧ ((k = 0 ∧ Cond.fieldLink (xR own) idx RJ0 "value" "[B" ∈ xTs) ∨ (k = 1 ∧ Cond.fieldLink (xR own) idx RJ0 "coder" "B" ∈ xTs)))
def xTF2 : Prop := ∀ ci C T N, vwCl[ci]? = some (C, T, N) → C = xR (ci + 1) ∧ (∀ w ∈ u_ws C T N, w ∈ xTs) ∧ (∃ ty0 : Nat → FieldType, ∀ k, k < N → parseFieldDescriptor (T k).2.2.1 = some (ty0 k)) ∧ (∀ a, a < N → ∀ b, b < N → a ≠ b → (T a).2.1 ≠ (T b).2.1) ∧ ∀ k, k < N → (T k).1 = C
def xTK1 : Prop := ∀ own idx v, xfind (xKT.getD own []) idx = some v → (∃ x, v = .int x ∧ Cond.constant (xR own) idx x ∈ xTs) ∨ (∃ x, v = .long x ∧ Cond.constantLong (xR own) idx x ∈ xTs) ∨ (∃ w, v = .retAddr w ∧ w < 16 ∧ own = 4 ∧ xsix.getD w 0 = idx)
def xTG1 : Prop := ∀ own idx v, xfind (xGT.getD own []) idx = some v → (v = .ref 1000 ∧ (Cond.fieldLink (xR own) idx RX5 "MOST_OF_RULE" "[I" ∈ xTs ∨ (own = 4 ∧ idx = 90))) ∨ (v = .ref 1001 ∧ Cond.fieldLink (xR own) idx RX0 "ABOVE" "[I" ∈ xTs) ∨ (v = .int 1 ∧ Cond.fieldLink (xR own) idx RJ0 "COMPACT_STRINGS" "Z" ∈ xTs) ∨ (v = .null ∧ Cond.fieldLink (xR own) idx RJ3 "SIOOBE_FORMATTER" "Ljava/util/function/BiFunction;" ∈ xTs)
def xTN1 : Prop := ∀ own idx ci tags, xfind (xNT.getD own []) idx = some (ci, tags) → ∃ C T N, vwCl[ci]? = some (C, T, N) ∧ tags.length = N ∧ N ≤ 90 ∧ Cond.classLink (xR own) idx C ∈ xTs ∧ Cond.instantiable C N ∈ xTs ∧ Cond.initialized C ∈ xTs ∧ (∀ k, k < N → ∃ ty, parseFieldDescriptor (T k).2.2.1 = some ty ∧ defaultValue ty = (match tags.getD k 2 with | 0 => .int 0 | 1 => .long 0 | _ => .null) ∧ tags.getD k 2 ≤ 2) ∧ Cond.arrayClass .int ∈ xTs ∧ Cond.arrayClass .char ∈ xTs
def xTW1 : Prop := Cond.arrayClass .int ∈ xTs ∧ Cond.arrayClass .char ∈ xTs ∧ Cond.native arraycopyName ∈ xTs ∧ Cond.static arraycopyName ∈ xTs ∧ Cond.initialized "java/lang/System" ∈ xTs ∧ Cond.instanceMethod objectInit ∈ xTs ∧ Cond.code objectInit ⟨#[0xb1]⟩ 1 none ∈ xTs ∧ Cond.initialized "java/lang/Math" ∈ xTs ∧ (Cond.static Lib.Math.max.name ∈ xTs ∧ Cond.code Lib.Math.max.name Lib.Math.max.code 2 (some .int) ∈ xTs) ∧ (Cond.static Lib.Math.min.name ∈ xTs ∧ Cond.code Lib.Math.min.name Lib.Math.min.code 2 (some .int) ∈ xTs) ∧ (Cond.static Lib.MathLoose.max_long.x ∈ xTs ∧ Cond.code Lib.MathLoose.max_long.x Lib.MathLoose.max_long.code 4 (some .long) ∈ xTs)
abbrev xYt : Type := List (MethodName × ByteArray × Nat)
def xnm (y : MethodName) (n : Nat) : Prop := y.cls ≠ "java/lang/invoke/MethodHandle" ∧ y.cls ≠ "java/lang/invoke/VarHandle" ∧ (parseMethodDescriptor y.desc).map (fun d => d.parameters.length) = some n
def xlnk (own idx : Nat) (y : MethodName) : Prop := Cond.methodLink (xR own) idx y ∈ xTs ∨ ∃ host, Cond.methodLinkNest (xR own) idx y host ∈ xNWm
def xTC1 (Y : xYt) : Prop := ∀ own idx kind k n rcv, xfind (xCT.getD own []) idx = some (kind, k, n, rcv) →
  (kind = 0 ∧ k + 1 ≠ xMT.length ∧ rcv = 0 ∧ ∃ y cc mL, xnth Y k = some (y, cc, mL) ∧ xnm y n ∧ Cond.static y ∈ xTs ∧ Cond.initialized y.cls ∈ xTs ∧ xlnk own idx y) ∨
  (kind = 1 ∧ k + 1 ≠ xMT.length ∧ ∃ y cc mL n1, xnth Y k = some (y, cc, mL) ∧ n = n1 + 1 ∧ xnm y n1 ∧ Cond.methodLink (xR own) idx y ∈ xTs ∧ Cond.instanceMethod y ∈ xTs ∧ Cond.selects y.cls y y ∈ xTs ∧ Cond.initialized y.cls ∈ xTs ∧ ((∃ ci, rcv = ci + 1 ∧ ci ≠ 100 ∧ ∃ T N, vwCl[ci]? = some (y.cls, T, N)) ∨ (rcv = 101 ∧ y.cls = RJ0))) ∨
  (kind = 2 ∧ k + 1 ≠ xMT.length ∧ (∃ M', xnth xMT k = some M' ∧ M'.2.2.2.1 = none) ∧ ∃ y cc mL n1, xnth Y k = some (y, cc, mL) ∧ n = n1 + 1 ∧ xnm y n1 ∧ y.name = "<init>" ∧ Cond.instanceMethod y ∈ xTs ∧ Cond.initialized y.cls ∈ xTs ∧ xlnk own idx y ∧ 1 ≤ rcv ∧ rcv ≤ 6) ∨
  (kind = 3 ∧ Cond.methodLink (xR own) idx arraycopyName ∈ xTs) ∨ (kind = 4 ∧ Cond.methodLink (xR own) idx objectInit ∈ xTs) ∨
  (kind = 5 ∧ Cond.methodLink (xR own) idx Lib.Math.max.name ∈ xTs) ∨ (kind = 6 ∧ Cond.methodLink (xR own) idx Lib.Math.min.name ∈ xTs) ∨ (kind = 7 ∧ Cond.methodLink (xR own) idx Lib.MathLoose.max_long.x ∈ xTs)
def xTM1 (Y : xYt) : Prop := ∀ k M, xnth xMT k = some M → ∃ y cc mL, xnth Y k = some (y, cc, mL) ∧ y.cls = xR M.1 ∧ (k + 1 = xMT.length ∨ plainName y.cls = true ∧ Cond.code y cc mL M.2.2.2.1 ∈ xTs) ∧ mL ≤ 21 ∧ mL = M.2.2.2.2.2 ∧ xmok cc mL M ∧ (M.2.2.2.2.1 = true → y.name = "<init>")
def xTab (Y : xYt) : Prop := xTF1 ∧ xTF2 ∧ xTK1 ∧ xTG1 ∧ xTN1 ∧ xTW1 ∧ xTC1 Y ∧ xTM1 Y
/-- what holds all through a method's run -/
def xFrm (g : xG) (X : xX) (p : Program) (s : State) (m : MethodId) (args : Array Value) (meth : Method) (c : Code) (R : Room) (cc : ByteArray) (nL : Nat) (M : xT) : Prop :=
  p.tables.exec = Jvm.exec ∧ c.code = cc ∧ c.maxLocals = nL ∧ s.vm.findClass (xR M.1) = some m.cls ∧ (∀ w ∈ xTs, w.before args s = true) ∧ xKK g s ∧ xST g X s s.heap ∧ g_a g ≤ s.heap.size ∧ (M.2.2.2.2.1 = true → meth.name = "<init>") ∧ xmok cc nL M ∧ 1 ≤ R.frames ∧ 40 ≤ R.locals
def xJ (p : Program) (l : Launch) (e : Env) (R : Room) (s : State) (m : MethodId) (args : Array Value) (below : List Frame) (meth : Method) (c : Code) (Q : State → Prop) (g : xG) (nL n0 m0 : Nat) (σ : xM) : xC → Prop
  | (pc, lv, st, sh, o, lg) => ∀ (H : Heap) (locs : List Loc) (cells slots : Nat) (ls : Array Slot), xWd g sh (xget o σ) lg H → va_S (g_A g) s.heap H locs → lv_has ls nL (xcl g lv) → cells + n0 = sh.length → slots + m0 = xsl sh → W p l e R s m args below meth c H locs cells slots Q (F0 m (xrp pc) ls (st.map (xcv g)))
theorem xcv_cat (g : xG) (hf : g_f g = .null ∨ ∃ a, g_f g = .ref a) (v : Value) : (xcv g v).category = v.category := by
  cases v with
  | ref q =>
    simp only [xcv]
    split
    · rfl
    · split <;> rfl
  | null => rcases hf with h | ⟨a, h⟩ <;> (show (g_f g).category = _; rw [h]; try rfl)
  | _ => rfl
theorem lv_less {ls : Array Slot} {nL : Nat} {a b : List (Nat × Value)} (h : lv_has ls nL a) (hs : ∀ q ∈ b, q ∈ a) : lv_has ls nL b := ⟨h.1, h.2.1, fun q hq => h.2.2 q (hs q hq)⟩
theorem xcl_mem {g : xG} {lv : xL} {i : Nat} {v : Value} (h : (i, v) ∈ lv) : (i, xcv g v) ∈ xcl g lv := List.mem_map.mpr ⟨_, h, rfl⟩
theorem xcl_at {g : xG} {lv : xL} {ls : Array Slot} {nL i : Nat} {v : Value} (h : lv_has ls nL (xcl g lv)) (hf : xfind lv i = some v) : ls[i]? = some (.val (xcv g v)) := h.2.2 _ (xcl_mem (xfind_mem hf))
theorem xkeep_sub : ∀ (lv : xL) (ks : List Nat), ∀ q ∈ xkeep lv ks, q ∈ lv := by
  intro lv
  induction lv with
  | nil => intro ks q h; cases h
  | cons e lv ih =>
    obtain ⟨j, v⟩ := e
    intro ks q h
    rw [xkeep] at h
    cases hm : xmem ks j with
    | true =>
      rw [hm, cond_true] at h
      rcases List.mem_cons.mp h with rfl | h
      · exact List.mem_cons_self
      · exact List.mem_cons_of_mem _ (ih ks q h)
    | false =>
      rw [hm, cond_false] at h
      exact List.mem_cons_of_mem _ (ih ks q h)
theorem xlins_mem : ∀ (lv : xL) (i : Nat) (v : Value), ∀ q ∈ xlins lv i v, q = (i, v) ∨ q ∈ lv := by
  intro lv
  induction lv with
  | nil => intro i v q h; exact Or.inl (List.mem_singleton.mp h)
  | cons e lv ih =>
    obtain ⟨j, w⟩ := e
    intro i v q h
    rw [xlins] at h
    cases hb : Nat.ble j i with
    | true =>
      rw [hb, cond_true] at h
      rcases List.mem_cons.mp h with rfl | h
      · exact Or.inr List.mem_cons_self
      · rcases ih i v q h with h | h
        · exact Or.inl h
        · exact Or.inr (List.mem_cons_of_mem _ h)
    | false =>
      rw [hb, cond_false] at h
      rcases List.mem_cons.mp h with h | h
      · exact Or.inl h
      · exact Or.inr h
theorem xls1_sub {g : xG} (hf : g_f g = .null ∨ ∃ a, g_f g = .ref a) {lv : xL} {i : Nat} {v : Value} : ∀ q ∈ xcl g (xls1 lv i v), q ∈ (i, xcv g v) :: (xcl g lv).filter (fun q => !(q.1 == i) && !(q.1 + 1 == i && q.2.category == 2)) := by
  intro q hq
  obtain ⟨r, hr, rfl⟩ := List.mem_map.mp hq
  rcases xlins_mem _ _ _ r hr with rfl | h
  · exact List.mem_cons_self
  · obtain ⟨h1, h2⟩ := List.mem_filter.mp h
    refine List.mem_cons_of_mem _ (List.mem_filter.mpr ⟨xcl_mem h1, ?_⟩)
    simpa [xcv_cat g hf] using h2
theorem xls2_sub {g : xG} (hf : g_f g = .null ∨ ∃ a, g_f g = .ref a) {lv : xL} {i : Nat} {v : Value} : ∀ q ∈ xcl g (xls2 lv i v), q ∈ (i, xcv g v) :: (xcl g lv).filter (fun q => !(q.1 == i) && (!(q.1 == i + 1) && !(q.1 + 1 == i && q.2.category == 2))) := by
  intro q hq
  obtain ⟨r, hr, rfl⟩ := List.mem_map.mp hq
  rcases xlins_mem _ _ _ r hr with rfl | h
  · exact List.mem_cons_self
  · obtain ⟨h1, h2⟩ := List.mem_filter.mp h
    refine List.mem_cons_of_mem _ (List.mem_filter.mpr ⟨xcl_mem h1, ?_⟩)
    simpa [xcv_cat g hf] using h2
/-! what a step's success says of the stack -/
theorem xin2_inv {M : xT} {f : Int32 → Int32 → Int32} {pc : Nat} {lv : xL} {sh : xS} {o : xO} {lg : Int64} {st : List Value} {a : xAc} (h : xin2 M f pc lv sh o lg st = some a) : ∃ x y r, st = .int y :: .int x :: r ∧ xgt M pc lv (.int (f x y) :: r) sh o lg = some a := by
  unfold xin2 at h
  split at h
  · exact ⟨_, _, _, rfl, h⟩
  · cases h
theorem xin1_inv {M : xT} {f : Int32 → Int32} {pc : Nat} {lv : xL} {sh : xS} {o : xO} {lg : Int64} {st : List Value} {a : xAc} (h : xin1 M f pc lv sh o lg st = some a) : ∃ x r, st = .int x :: r ∧ xgt M pc lv (.int (f x) :: r) sh o lg = some a := by
  unfold xin1 at h
  split at h
  · exact ⟨_, _, rfl, h⟩
  · cases h
theorem xln2_inv {M : xT} {f : Int64 → Int64 → Int64} {pc : Nat} {lv : xL} {sh : xS} {o : xO} {lg : Int64} {st : List Value} {a : xAc} (h : xln2 M f pc lv sh o lg st = some a) : ∃ x y r, st = .long y :: .long x :: r ∧ xgt M pc lv (.long (f x y) :: r) sh o lg = some a := by
  unfold xln2 at h
  split at h
  · exact ⟨_, _, _, rfl, h⟩
  · cases h
theorem xind_inv {M : xT} {f : Int32 → Int32 → Int32} {pc : Nat} {lv : xL} {sh : xS} {o : xO} {lg : Int64} {st : List Value} {a : xAc} (h : xind M f pc lv sh o lg st = some a) : ∃ x y r, st = .int y :: .int x :: r ∧ ¬ y = 0 ∧ xgt M pc lv (.int (f x y) :: r) sh o lg = some a := by
  unfold xind at h
  split at h
  · obtain ⟨h1, h2⟩ := x_iteN h
    exact ⟨_, _, _, rfl, h1, h2⟩
  · cases h
theorem xlnd_inv {M : xT} {f : Int64 → Int64 → Int64} {pc : Nat} {lv : xL} {sh : xS} {o : xO} {lg : Int64} {st : List Value} {a : xAc} (h : xlnd M f pc lv sh o lg st = some a) : ∃ x y r, st = .long y :: .long x :: r ∧ ¬ y = 0 ∧ xgt M pc lv (.long (f x y) :: r) sh o lg = some a := by
  unfold xlnd at h
  split at h
  · obtain ⟨h1, h2⟩ := x_iteN h
    exact ⟨_, _, _, rfl, h1, h2⟩
  · cases h
theorem xld_inv {M : xT} {kd i pc : Nat} {lv : xL} {sh : xS} {o : xO} {lg : Int64} {st : List Value} {a : xAc} (g : xG) (h : xld M kd i pc lv st sh o lg = some a) : ∃ v, xfind lv i = some v ∧ xgt M pc lv (v :: st) sh o lg = some a ∧ ((kd = 0 ∧ ∃ x, v = .int x) ∨ (kd = 1 ∧ ∃ x, v = .long x) ∨ (kd = 2 ∧ ∃ q, xcv g v = .ref q)) := by
  unfold xld at h
  split at h
  · rename_i x hx; exact ⟨_, hx, h, Or.inl ⟨rfl, _, rfl⟩⟩
  · rename_i x hx; exact ⟨_, hx, h, Or.inr (Or.inl ⟨rfl, _, rfl⟩)⟩
  · rename_i q hx
    refine ⟨_, hx, h, Or.inr (Or.inr ⟨rfl, ?_⟩)⟩
    simp only [xcv]
    split
    · exact ⟨_, rfl⟩
    · split <;> exact ⟨_, rfl⟩
  · rename_i q hx; exact ⟨_, hx, h, Or.inr (Or.inr ⟨rfl, _, rfl⟩)⟩
  · rename_i q hx; exact ⟨_, hx, h, Or.inr (Or.inr ⟨rfl, _, rfl⟩)⟩
  · cases h
end
section
/-! SOUNDNESS 4: every simple instruction -/
section S4
variable {p : Program} {l : Launch} {e : Env} {R : Room} {s : State} {m : MethodId} {args : Array Value} {below : List Frame} {meth : Method} {c : Code} {Q : State → Prop} {g : xG} {X : xX} {cc : ByteArray} {nL n0 m0 : Nat} {M : xT} {σ : xM}
theorem xJ_go {pc : Nat} {lv : xL} {st : List Value} {sh : xS} {o : xO} {lg : Int64} {c' : xC} (h : xgt M pc lv st sh o lg = some (.inr (.inr c'))) (hpc : pc < 100000) (k : xJ p l e R s m args below meth c Q g nL n0 m0 σ c') :
    ∀ (H : Heap) (locs : List Loc) (cells slots : Nat) (ls : Array Slot), xWd g sh (xget o σ) lg H → va_S (g_A g) s.heap H locs → lv_has ls nL (xcl g lv) → cells + n0 = sh.length → slots + m0 = xsl sh → W p l e R s m args below meth c H locs cells slots Q (F0 m pc ls (st.map (xcv g))) := by
  unfold xgt at h
  simp only [Option.some.injEq, Sum.inr.injEq] at h
  subst h
  intro H locs cells slots ls a1 a2 a3 a4 a5
  have h := k H locs cells slots ls a1 a2 a3 a4 a5
  rw [xrp_nx hpc] at h
  exact h
/-- what a step may use: the machine at pc with its stack -/
def xAtW (p : Program) (l : Launch) (e : Env) (R : Room) (s : State) (m : MethodId) (args : Array Value) (below : List Frame) (meth : Method) (c : Code) (Q : State → Prop) (g : xG) (nL n0 m0 : Nat) (σ : xM) (pc : Nat) (lv : xL) (st : List Value) (sh : xS) (o : xO) (lg : Int64) : Prop := ∀ (H : Heap) (locs : List Loc) (cells slots : Nat) (ls : Array Slot), xWd g sh (xget o σ) lg H → va_S (g_A g) s.heap H locs → lv_has ls nL (xcl g lv) → cells + n0 = sh.length → slots + m0 = xsl sh → W p l e R s m args below meth c H locs cells slots Q (F0 m pc ls (st.map (xcv g)))
theorem xbr_inv {cd : Jvm.ClassFile.Cond} {x y : Int32} {a b : Nat} (P : Nat → Prop) (hp : P (xbr M cd x y a b)) : (match cd with | .eq => (x = y → P (xnx M a)) ∧ (¬ x = y → P (xnx M b)) | .ne => (¬ x = y → P (xnx M a)) ∧ (x = y → P (xnx M b)) | .lt => (x < y → P (xnx M a)) ∧ (¬ x < y → P (xnx M b)) | .ge => (y ≤ x → P (xnx M a)) ∧ (¬ y ≤ x → P (xnx M b)) | .gt => (y < x → P (xnx M a)) ∧ (¬ y < x → P (xnx M b)) | .le => (x ≤ y → P (xnx M a)) ∧ (¬ x ≤ y → P (xnx M b))) := by
  cases cd <;> simp only [xbr] at hp ⊢ <;> refine ⟨fun h => ?_, fun h => ?_⟩ <;> simpa [h] using hp
theorem xsw_inv : ∀ (cs : List (Int32 × Nat)) (d : Nat) (x : Int32), (∃ (j : Nat) (t : Nat), cs[j]? = some (x, t) ∧ xsw M cs d x = xnx M t) ∨ ((∀ e ∈ cs, ¬ x = e.1) ∧ xsw M cs d x = xnx M d) := by
  intro cs
  induction cs with
  | nil => intro d x; exact Or.inr ⟨fun e h => (by cases h), rfl⟩
  | cons e cs ih =>
    obtain ⟨v, t⟩ := e
    intro d x
    rw [xsw]
    by_cases h : x = v
    · subst h
      exact Or.inl ⟨0, t, rfl, by rw [if_pos rfl]⟩
    · rw [if_neg h]
      rcases ih d x with ⟨j, t', h1, h2⟩ | ⟨h1, h2⟩
      · exact Or.inl ⟨j + 1, t', by simpa using h1, h2⟩
      · exact Or.inr ⟨fun e he => by
          rcases List.mem_cons.mp he with rfl | he
          · exact h
          · exact h1 e he, h2⟩
theorem xex_dec {r : xEn} (h : xenok cc nL r = true) : xen3 nL r.2.1 = true ∧ decode cc r.1 = .ok (r.2.1, r.2.2.1) ∧ r.1 + r.2.2.1 < 100000 ∧ r.2.2.2.1 < 100000 ∧ (∀ x ∈ r.2.2.2.2.2, x.2 < 100000) ∧ xen1 r.1 r.2.1 r.2.2.2.1 r.2.2.2.2.1 r.2.2.2.2.2 = true ∧ xen2 r.2.1 r.2.2.1 = true := by
  unfold xenok at h
  simp only [Bool.and_eq_true, decide_eq_true_eq, List.all_eq_true] at h
  obtain ⟨⟨h0, h1⟩, h2, h3, h4, h5, h6⟩ := h
  have := Nat.le_of_ble_eq_true h2
  have := Nat.le_of_ble_eq_true h3
  refine ⟨h0, h1, by omega, by omega, fun x hx => ?_, h5, h6⟩
  have := Nat.le_of_ble_eq_true (h4 x hx)
  omega
/-- the instructions that touch stack and locals alone -/
theorem xexec_pure (Y : xYt) (hT : xTab Y) (hF : xFrm g X p s m args meth c R cc nL M) {i : Instr} {ln tgt : Nat} {cv : Int32} {cs : List (Int32 × Nat)} {pc : Nat} {lv : xL} {st : List Value} {sh : xS} {o : xO} {lg : Int64} {c' : xC} (hr : xenok cc nL (pc, i, ln, tgt, cv, cs) = true)
    (hi : match i with | .aload _ | .aload_n _ | .iload _ | .iload_n _ | .lload _ | .lload_n _ | .iconst _ | .bipush _ | .sipush _ | .lconst _ | .iadd | .isub | .imul | .iand | .ior | .ixor | .ishl | .ishr | .iushr | .idiv | .irem | .ineg | .i2b | .i2s | .i2c | .i2l | .l2i | .ladd | .lsub | .lmul | .ldiv | .lrem | .lcmp | .pop | .dup | .dup2 | .goto _ => True | _ => False)
    (h : xexec XP M X σ i tgt cv cs (pc + ln) lv st sh o lg = some (.inr (.inr c'))) (k : xJ p l e R s m args below meth c Q g nL n0 m0 σ c') : xAtW p l e R s m args below meth c Q g nL n0 m0 σ pc lv st sh o lg := by
  obtain ⟨-, hd, hpc, htg, -, h1, h2⟩ := xex_dec hr
  obtain ⟨hx, hb, hml, hown, hts, hK, hST, hs0, hini, hok, hR1, hR2⟩ := hF
  have hf := hST.2.2.1.2.2
  dsimp only at hd hpc htg h1 h2
  intro H locs cells slots ls hw hS hl ha hz
  cases i with
  | aload j =>
    have hln : ln = 2 := Nat.eq_of_beq_eq_true h2
    subst hln
    obtain ⟨v, hv, hg, h3⟩ := xld_inv g h
    rcases h3 with ⟨h3, -⟩ | ⟨h3, -⟩ | ⟨-, q, hq⟩
    · cases h3
    · cases h3
    have hl2 := xcl_at hl hv
    rw [hq] at hl2
    refine lv_aload hx hb hd hl2 ?_
    have := xJ_go hg hpc k H locs cells slots ls hw hS hl ha hz
    rw [List.map_cons, hq] at this
    exact this
  | aload_n j =>
    have hln : ln = 1 := Nat.eq_of_beq_eq_true h2
    subst hln
    obtain ⟨v, hv, hg, h3⟩ := xld_inv g h
    rcases h3 with ⟨h3, -⟩ | ⟨h3, -⟩ | ⟨-, q, hq⟩
    · cases h3
    · cases h3
    have hl2 := xcl_at hl hv
    rw [hq] at hl2
    refine lv_aload_n hx hb hd rfl hl2 ?_
    have := xJ_go hg hpc k H locs cells slots ls hw hS hl ha hz
    rw [List.map_cons, hq] at this
    exact this
  | iload j =>
    have hln : ln = 2 := Nat.eq_of_beq_eq_true h2
    subst hln
    obtain ⟨v, hv, hg, h3⟩ := xld_inv g h
    rcases h3 with ⟨-, x, rfl⟩ | ⟨h3, -⟩ | ⟨h3, -⟩
    · exact lv_iload hx hb hd (xcl_at hl hv) (xJ_go hg hpc k H locs cells slots ls hw hS hl ha hz)
    · cases h3
    · cases h3
  | iload_n j =>
    have hln : ln = 1 := Nat.eq_of_beq_eq_true h2
    subst hln
    obtain ⟨v, hv, hg, h3⟩ := xld_inv g h
    rcases h3 with ⟨-, x, rfl⟩ | ⟨h3, -⟩ | ⟨h3, -⟩
    · exact lv_iload_n hx hb hd rfl (xcl_at hl hv) (xJ_go hg hpc k H locs cells slots ls hw hS hl ha hz)
    · cases h3
    · cases h3
  | lload j =>
    have hln : ln = 2 := Nat.eq_of_beq_eq_true h2
    subst hln
    obtain ⟨v, hv, hg, h3⟩ := xld_inv g h
    rcases h3 with ⟨h3, -⟩ | ⟨-, x, rfl⟩ | ⟨h3, -⟩
    · cases h3
    · exact lv_lload hx hb hd (xcl_at hl hv) (xJ_go hg hpc k H locs cells slots ls hw hS hl ha hz)
    · cases h3
  | lload_n j =>
    have hln : ln = 1 := Nat.eq_of_beq_eq_true h2
    subst hln
    obtain ⟨v, hv, hg, h3⟩ := xld_inv g h
    rcases h3 with ⟨h3, -⟩ | ⟨-, x, rfl⟩ | ⟨h3, -⟩
    · cases h3
    · exact lv_lload_n hx hb hd rfl (xcl_at hl hv) (xJ_go hg hpc k H locs cells slots ls hw hS hl ha hz)
    · cases h3
  | iconst n =>
    have hln : ln = 1 := Nat.eq_of_beq_eq_true h2
    subst hln
    exact lv_iconst hx hb hd (of_decide_eq_true h1) (xJ_go h hpc k H locs cells slots ls hw hS hl ha hz)
  | bipush n =>
    have hln : ln = 2 := Nat.eq_of_beq_eq_true h2
    subst hln
    exact lv_bipush hx hb hd (of_decide_eq_true h1) (xJ_go h hpc k H locs cells slots ls hw hS hl ha hz)
  | sipush n =>
    have hln : ln = 3 := Nat.eq_of_beq_eq_true h2
    subst hln
    exact lv_sipush hx hb hd (of_decide_eq_true h1) (xJ_go h hpc k H locs cells slots ls hw hS hl ha hz)
  | lconst n =>
    have hln : ln = 1 := Nat.eq_of_beq_eq_true h2
    subst hln
    exact lv_lconst hx hb hd rfl (xJ_go h hpc k H locs cells slots ls hw hS hl ha hz)
  | iadd =>
    have hln : ln = 1 := Nat.eq_of_beq_eq_true h2
    subst hln
    obtain ⟨x, y, r, rfl, hg⟩ := xin2_inv h
    exact lv_iadd hx hb hd (xJ_go hg hpc k H locs cells slots ls hw hS hl ha hz)
  | isub =>
    have hln : ln = 1 := Nat.eq_of_beq_eq_true h2
    subst hln
    obtain ⟨x, y, r, rfl, hg⟩ := xin2_inv h
    exact lv_isub hx hb hd (xJ_go hg hpc k H locs cells slots ls hw hS hl ha hz)
  | imul =>
    have hln : ln = 1 := Nat.eq_of_beq_eq_true h2
    subst hln
    obtain ⟨x, y, r, rfl, hg⟩ := xin2_inv h
    exact lv_imul hx hb hd (xJ_go hg hpc k H locs cells slots ls hw hS hl ha hz)
  | iand =>
    have hln : ln = 1 := Nat.eq_of_beq_eq_true h2
    subst hln
    obtain ⟨x, y, r, rfl, hg⟩ := xin2_inv h
    exact lv_iand hx hb hd (xJ_go hg hpc k H locs cells slots ls hw hS hl ha hz)
  | ior =>
    have hln : ln = 1 := Nat.eq_of_beq_eq_true h2
    subst hln
    obtain ⟨x, y, r, rfl, hg⟩ := xin2_inv h
    exact lv_ior hx hb hd (xJ_go hg hpc k H locs cells slots ls hw hS hl ha hz)
  | ixor =>
    have hln : ln = 1 := Nat.eq_of_beq_eq_true h2
    subst hln
    obtain ⟨x, y, r, rfl, hg⟩ := xin2_inv h
    exact lv_ixor hx hb hd (xJ_go hg hpc k H locs cells slots ls hw hS hl ha hz)
  | ishl =>
    have hln : ln = 1 := Nat.eq_of_beq_eq_true h2
    subst hln
    obtain ⟨x, y, r, rfl, hg⟩ := xin2_inv h
    exact lv_ishl hx hb hd (xJ_go hg hpc k H locs cells slots ls hw hS hl ha hz)
  | ishr =>
    have hln : ln = 1 := Nat.eq_of_beq_eq_true h2
    subst hln
    obtain ⟨x, y, r, rfl, hg⟩ := xin2_inv h
    exact lv_ishr hx hb hd (xJ_go hg hpc k H locs cells slots ls hw hS hl ha hz)
  | iushr =>
    have hln : ln = 1 := Nat.eq_of_beq_eq_true h2
    subst hln
    obtain ⟨x, y, r, rfl, hg⟩ := xin2_inv h
    exact lv_iushr hx hb hd rfl (xJ_go hg hpc k H locs cells slots ls hw hS hl ha hz)
  | idiv =>
    have hln : ln = 1 := Nat.eq_of_beq_eq_true h2
    subst hln
    obtain ⟨x, y, r, rfl, hy, hg⟩ := xind_inv h
    exact lv_idiv hx hb hd hy (xJ_go hg hpc k H locs cells slots ls hw hS hl ha hz)
  | irem =>
    have hln : ln = 1 := Nat.eq_of_beq_eq_true h2
    subst hln
    obtain ⟨x, y, r, rfl, hy, hg⟩ := xind_inv h
    exact lv_irem hx hb hd hy (xJ_go hg hpc k H locs cells slots ls hw hS hl ha hz)
  | ineg =>
    have hln : ln = 1 := Nat.eq_of_beq_eq_true h2
    subst hln
    obtain ⟨x, r, rfl, hg⟩ := xin1_inv h
    exact lv_ineg hx hb hd (xJ_go hg hpc k H locs cells slots ls hw hS hl ha hz)
  | i2b =>
    have hln : ln = 1 := Nat.eq_of_beq_eq_true h2
    subst hln
    obtain ⟨x, r, rfl, hg⟩ := xin1_inv h
    exact lv_i2b hx hb hd rfl (xJ_go hg hpc k H locs cells slots ls hw hS hl ha hz)
  | i2s =>
    have hln : ln = 1 := Nat.eq_of_beq_eq_true h2
    subst hln
    obtain ⟨x, r, rfl, hg⟩ := xin1_inv h
    exact lv_i2s hx hb hd rfl (xJ_go hg hpc k H locs cells slots ls hw hS hl ha hz)
  | i2c =>
    have hln : ln = 1 := Nat.eq_of_beq_eq_true h2
    subst hln
    obtain ⟨x, r, rfl, hg⟩ := xin1_inv h
    exact lv_i2c hx hb hd rfl (xJ_go hg hpc k H locs cells slots ls hw hS hl ha hz)
  | i2l =>
    have hln : ln = 1 := Nat.eq_of_beq_eq_true h2
    subst hln
    simp only [xexec] at h
    split at h
    · exact lv_i2l hx hb hd rfl (xJ_go h hpc k H locs cells slots ls hw hS hl ha hz)
    · cases h
  | l2i =>
    have hln : ln = 1 := Nat.eq_of_beq_eq_true h2
    subst hln
    simp only [xexec] at h
    split at h
    · exact lv_l2i hx hb hd rfl (xJ_go h hpc k H locs cells slots ls hw hS hl ha hz)
    · cases h
  | ladd =>
    have hln : ln = 1 := Nat.eq_of_beq_eq_true h2
    subst hln
    obtain ⟨x, y, r, rfl, hg⟩ := xln2_inv h
    exact lv_ladd hx hb hd (xJ_go hg hpc k H locs cells slots ls hw hS hl ha hz)
  | lsub =>
    have hln : ln = 1 := Nat.eq_of_beq_eq_true h2
    subst hln
    obtain ⟨x, y, r, rfl, hg⟩ := xln2_inv h
    exact lv_lsub hx hb hd (xJ_go hg hpc k H locs cells slots ls hw hS hl ha hz)
  | lmul =>
    have hln : ln = 1 := Nat.eq_of_beq_eq_true h2
    subst hln
    obtain ⟨x, y, r, rfl, hg⟩ := xln2_inv h
    exact lv_lmul hx hb hd (xJ_go hg hpc k H locs cells slots ls hw hS hl ha hz)
  | ldiv =>
    have hln : ln = 1 := Nat.eq_of_beq_eq_true h2
    subst hln
    obtain ⟨x, y, r, rfl, hy, hg⟩ := xlnd_inv h
    exact lv_ldiv hx hb hd hy (xJ_go hg hpc k H locs cells slots ls hw hS hl ha hz)
  | lrem =>
    have hln : ln = 1 := Nat.eq_of_beq_eq_true h2
    subst hln
    obtain ⟨x, y, r, rfl, hy, hg⟩ := xlnd_inv h
    exact lv_lrem hx hb hd hy (xJ_go hg hpc k H locs cells slots ls hw hS hl ha hz)
  | lcmp =>
    have hln : ln = 1 := Nat.eq_of_beq_eq_true h2
    subst hln
    simp only [xexec] at h
    split at h
    · exact W.lcmp hx hb hd (xJ_go h hpc k H locs cells slots ls hw hS hl ha hz)
    · cases h
  | pop =>
    have hln : ln = 1 := Nat.eq_of_beq_eq_true h2
    subst hln
    simp only [xexec] at h
    split at h
    · rename_i v r
      cases hc1 : Nat.beq v.category 1 with
      | false => rw [hc1] at h; cases h
      | true =>
        rw [hc1] at h
        exact lv_pop hx hb hd ((xcv_cat g hf v).trans (Nat.eq_of_beq_eq_true hc1)) (xJ_go h hpc k H locs cells slots ls hw hS hl ha hz)
    · cases h
  | dup =>
    have hln : ln = 1 := Nat.eq_of_beq_eq_true h2
    subst hln
    simp only [xexec] at h
    split at h
    · rename_i v r
      cases hc1 : Nat.beq v.category 1 with
      | false => rw [hc1] at h; cases h
      | true =>
        rw [hc1] at h
        exact lv_dup hx hb hd ((xcv_cat g hf v).trans (Nat.eq_of_beq_eq_true hc1)) (xJ_go h hpc k H locs cells slots ls hw hS hl ha hz)
    · cases h
  | dup2 =>
    have hln : ln = 1 := Nat.eq_of_beq_eq_true h2
    subst hln
    simp only [xexec] at h
    split at h
    · rename_i v w r
      cases hc1 : Nat.beq v.category 1 with
      | false => rw [hc1] at h; cases h
      | true =>
        rw [hc1] at h
        cases hc2 : Nat.beq w.category 1 with
        | false => rw [hc2] at h; cases h
        | true =>
          rw [hc2] at h
          exact lv_dup2_11 hx hb hd ((xcv_cat g hf v).trans (Nat.eq_of_beq_eq_true hc1)) ((xcv_cat g hf w).trans (Nat.eq_of_beq_eq_true hc2)) (xJ_go h hpc k H locs cells slots ls hw hS hl ha hz)
    · cases h
  | goto off =>
    have hln : ln = 3 := Nat.eq_of_beq_eq_true h2
    subst hln
    exact lv_goto hx hb hd (of_decide_eq_true h1) (xJ_go h htg k H locs cells slots ls hw hS hl ha hz)
  | _ => exact absurd hi (by simp)
end S4
end
section
/-! SOUNDNESS 5: stores, branches, constants -/
section S5
variable {p : Program} {l : Launch} {e : Env} {R : Room} {s : State} {m : MethodId} {args : Array Value} {below : List Frame} {meth : Method} {c : Code} {Q : State → Prop} {g : xG} {X : xX} {cc : ByteArray} {nL n0 m0 : Nat} {M : xT} {σ : xM}
theorem xst_inv {kd i pc : Nat} {lv : xL} {sh : xS} {o : xO} {lg : Int64} {st : List Value} {a : xAc} (h : xst M kd i pc lv sh o lg st = some a) : (kd = 0 ∧ ∃ x r, st = .int x :: r ∧ xgt M pc (xls1 lv i (.int x)) r sh o lg = some a) ∨ (kd = 1 ∧ ∃ x r, st = .long x :: r ∧ xgt M pc (xls2 lv i (.long x)) r sh o lg = some a) ∨ (kd = 2 ∧ ∃ q r, st = .ref q :: r ∧ xgt M pc (xls1 lv i (.ref q)) r sh o lg = some a) := by
  unfold xst at h
  split at h
  · exact Or.inl ⟨rfl, _, _, rfl, h⟩
  · exact Or.inr (Or.inl ⟨rfl, _, _, rfl, h⟩)
  · exact Or.inr (Or.inr ⟨rfl, _, _, rfl, h⟩)
  · cases h
theorem xcv_ref (g : xG) (q : Nat) : ∃ a, xcv g (.ref q) = .ref a := by
  simp only [xcv]
  split
  · exact ⟨_, rfl⟩
  · split <;> exact ⟨_, rfl⟩
theorem xexec_mid (Y : xYt) (hT : xTab Y) (hF : xFrm g X p s m args meth c R cc nL M) {i : Instr} {ln tgt : Nat} {cv : Int32} {cs : List (Int32 × Nat)} {pc : Nat} {lv : xL} {st : List Value} {sh : xS} {o : xO} {lg : Int64} {c' : xC} (hr : xenok cc nL (pc, i, ln, tgt, cv, cs) = true)
    (hi : match i with | .astore _ | .astore_n _ | .istore _ | .istore_n _ | .lstore _ | .lstore_n _ | .ldc _ | .ldc_w _ | .ldc2_w _ | .iinc _ _ | .ifCond _ _ | .if_icmp _ _ | .tableswitch _ _ _ _ | .getstatic _ => True | _ => False)
    (h : xexec XP M X σ i tgt cv cs (pc + ln) lv st sh o lg = some (.inr (.inr c'))) (k : xJ p l e R s m args below meth c Q g nL n0 m0 σ c') : xAtW p l e R s m args below meth c Q g nL n0 m0 σ pc lv st sh o lg := by
  obtain ⟨h3, hd, hpc, htg, hcs, h1, h2⟩ := xex_dec hr
  obtain ⟨-, -, hTK, hTG, -, -, -, -⟩ := hT
  obtain ⟨hx, hb, hml, hown, hts, hK, hST, hs0, hini, hok, hR1, hR2⟩ := hF
  have hf := hST.2.2.1.2.2
  dsimp only at hd hpc htg h1 h2 h3 hcs
  intro H locs cells slots ls hw hS hl ha hz
  cases i with
  | istore j =>
    have hln : ln = 2 := Nat.eq_of_beq_eq_true h2
    subst hln
    rcases xst_inv h with ⟨-, x, r, rfl, hg⟩ | ⟨h9, -⟩ | ⟨h9, -⟩
    · exact lv_istore hx hb hd hl (of_decide_eq_true h3) rfl (fun ls' hl' => xJ_go hg hpc k H locs cells slots ls' hw hS (lv_less hl' (xls1_sub hf)) ha hz)
    · cases h9
    · cases h9
  | istore_n j =>
    have hln : ln = 1 := Nat.eq_of_beq_eq_true h2
    subst hln
    rcases xst_inv h with ⟨-, x, r, rfl, hg⟩ | ⟨h9, -⟩ | ⟨h9, -⟩
    · exact lv_istore_n hx hb hd rfl hl (of_decide_eq_true h3) rfl (fun ls' hl' => xJ_go hg hpc k H locs cells slots ls' hw hS (lv_less hl' (xls1_sub hf)) ha hz)
    · cases h9
    · cases h9
  | lstore j =>
    have hln : ln = 2 := Nat.eq_of_beq_eq_true h2
    subst hln
    rcases xst_inv h with ⟨h9, -⟩ | ⟨-, x, r, rfl, hg⟩ | ⟨h9, -⟩
    · cases h9
    · exact lv_lstore hx hb hd hl (of_decide_eq_true h3) rfl (fun ls' hl' => xJ_go hg hpc k H locs cells slots ls' hw hS (lv_less hl' (xls2_sub hf)) ha hz)
    · cases h9
  | lstore_n j =>
    have hln : ln = 1 := Nat.eq_of_beq_eq_true h2
    subst hln
    rcases xst_inv h with ⟨h9, -⟩ | ⟨-, x, r, rfl, hg⟩ | ⟨h9, -⟩
    · cases h9
    · exact lv_lstore_n hx hb hd rfl hl (of_decide_eq_true h3) rfl (fun ls' hl' => xJ_go hg hpc k H locs cells slots ls' hw hS (lv_less hl' (xls2_sub hf)) ha hz)
    · cases h9
  | astore j =>
    have hln : ln = 2 := Nat.eq_of_beq_eq_true h2
    subst hln
    rcases xst_inv h with ⟨h9, -⟩ | ⟨h9, -⟩ | ⟨-, q, r, rfl, hg⟩
    · cases h9
    · cases h9
    · obtain ⟨a, ea⟩ := xcv_ref g q
      rw [List.map_cons, ea]
      refine lv_astore hx hb hd hl (of_decide_eq_true h3) rfl (fun ls' hl' => xJ_go hg hpc k H locs cells slots ls' hw hS (lv_less hl' ?_) ha hz)
      rw [← ea]
      exact xls1_sub hf
  | astore_n j =>
    have hln : ln = 1 := Nat.eq_of_beq_eq_true h2
    subst hln
    rcases xst_inv h with ⟨h9, -⟩ | ⟨h9, -⟩ | ⟨-, q, r, rfl, hg⟩
    · cases h9
    · cases h9
    · obtain ⟨a, ea⟩ := xcv_ref g q
      rw [List.map_cons, ea]
      refine lv_astore_n hx hb hd rfl hl (of_decide_eq_true h3) rfl (fun ls' hl' => xJ_go hg hpc k H locs cells slots ls' hw hS (lv_less hl' ?_) ha hz)
      rw [← ea]
      exact xls1_sub hf
  | iinc j n =>
    have hln : ln = 3 := Nat.eq_of_beq_eq_true h2
    subst hln
    simp only [xexec] at h
    split at h
    · rename_i x hv
      have hm := xcl_mem (g := g) (xfind_mem hv)
      obtain ⟨kk, hkk⟩ := List.getElem?_of_mem hm
      have hlt := lv_lt (hl.2.2 _ hm)
      rw [hl.1] at hlt
      have e1 : Int32.ofInt n = cv := of_decide_eq_true h1
      exact lv_iinc hx hb hd hl hkk (by rw [e1]) hlt rfl (fun ls' hl' => xJ_go h hpc k H locs cells slots ls' hw hS (lv_less hl' (xls1_sub hf)) ha hz)
    · cases h
  | ldc j =>
    have hln : ln = 2 := Nat.eq_of_beq_eq_true h2
    subst hln
    simp only [xexec] at h
    split at h
    · rename_i x hv
      rcases hTK _ _ _ hv with ⟨x', e1, hc⟩ | ⟨x', e1, hc⟩ | ⟨w, e1, -⟩
      · cases e1
        exact lv_ldc hx hb hown (hts _ hc) hd (xJ_go h hpc k H locs cells slots ls hw hS hl ha hz)
      · cases e1
      · cases e1
    · rename_i w hv
      rcases hTK _ _ _ hv with ⟨x', e1, hc⟩ | ⟨x', e1, hc⟩ | ⟨w', e1, h16, h4, hix⟩
      · cases e1
      · cases e1
      · cases e1
        have hR := hST.2.2.2.1.2 w h16
        rw [hix] at hR
        rw [h4] at hown
        have hgo := xJ_go h hpc k H locs cells slots ls hw hS hl ha hz
        rw [List.map_cons] at hgo
        simp only [xcv, Nat.mod_eq_of_lt h16] at hgo
        exact va_ldcS hx hb hown hR hd hgo
    · cases h
  | ldc_w j =>
    have hln : ln = 3 := Nat.eq_of_beq_eq_true h2
    subst hln
    simp only [xexec] at h
    split at h
    · rename_i x hv
      rcases hTK _ _ _ hv with ⟨x', e1, hc⟩ | ⟨x', e1, hc⟩ | ⟨w, e1, -⟩
      · cases e1
        exact lv_ldcw hx hb hown (hts _ hc) hd (xJ_go h hpc k H locs cells slots ls hw hS hl ha hz)
      · cases e1
      · cases e1
    · cases h
  | ldc2_w j =>
    have hln : ln = 3 := Nat.eq_of_beq_eq_true h2
    subst hln
    simp only [xexec] at h
    split at h
    · rename_i x hv
      rcases hTK _ _ _ hv with ⟨x', e1, hc⟩ | ⟨x', e1, hc⟩ | ⟨w, e1, -⟩
      · cases e1
      · cases e1
        exact lv_ldc2 hx hb hown (hts _ hc) hd (xJ_go h hpc k H locs cells slots ls hw hS hl ha hz)
      · cases e1
    · cases h
  | ifCond cd off =>
    have hln : ln = 3 := Nat.eq_of_beq_eq_true h2
    subst hln
    have ht : (pc : Int) + off = (tgt : Int) := of_decide_eq_true h1
    simp only [xexec] at h
    split at h
    · rename_i x r
      simp only [Option.some.injEq, Sum.inr.injEq] at h
      subst h
      have hk := xbr_inv (fun z => xJ p l e R s m args below meth c Q g nL n0 m0 σ (z, lv, r, sh, o, lg)) k
      have go : ∀ z, z < 100000 → xJ p l e R s m args below meth c Q g nL n0 m0 σ (xnx M z, lv, r, sh, o, lg) → W p l e R s m args below meth c H locs cells slots Q (F0 m z ls (r.map (xcv g))) := fun z hz2 kk => xJ_go (M := M) rfl hz2 kk H locs cells slots ls hw hS hl ha hz
      cases cd
      · exact lv_if_eq hx hb hd ht (fun z => go _ htg (hk.1 z)) (fun z => go _ hpc (hk.2 z))
      · exact lv_if_ne hx hb hd ht (fun z => go _ htg (hk.1 z)) (fun z => go _ hpc (hk.2 z))
      · exact lv_if_lt hx hb hd ht (fun z => go _ htg (hk.1 z)) (fun z => go _ hpc (hk.2 z))
      · exact lv_if_ge hx hb hd ht (fun z => go _ htg (hk.1 z)) (fun z => go _ hpc (hk.2 z))
      · exact lv_if_gt hx hb hd ht (fun z => go _ htg (hk.1 z)) (fun z => go _ hpc (hk.2 z))
      · exact lv_if_le hx hb hd ht (fun z => go _ htg (hk.1 z)) (fun z => go _ hpc (hk.2 z))
    · cases h
  | if_icmp cd off =>
    have hln : ln = 3 := Nat.eq_of_beq_eq_true h2
    subst hln
    have ht : (pc : Int) + off = (tgt : Int) := of_decide_eq_true h1
    simp only [xexec] at h
    split at h
    · rename_i y x r
      simp only [Option.some.injEq, Sum.inr.injEq] at h
      subst h
      have hk := xbr_inv (fun z => xJ p l e R s m args below meth c Q g nL n0 m0 σ (z, lv, r, sh, o, lg)) k
      have go : ∀ z, z < 100000 → xJ p l e R s m args below meth c Q g nL n0 m0 σ (xnx M z, lv, r, sh, o, lg) → W p l e R s m args below meth c H locs cells slots Q (F0 m z ls (r.map (xcv g))) := fun z hz2 kk => xJ_go (M := M) rfl hz2 kk H locs cells slots ls hw hS hl ha hz
      cases cd
      · exact lv_icmp_eq hx hb hd ht (fun z => go _ htg (hk.1 z)) (fun z => go _ hpc (hk.2 z))
      · exact lv_icmp_ne hx hb hd ht (fun z => go _ htg (hk.1 z)) (fun z => go _ hpc (hk.2 z))
      · exact lv_icmp_lt hx hb hd ht (fun z => go _ htg (hk.1 z)) (fun z => go _ hpc (hk.2 z))
      · exact lv_icmp_ge hx hb hd ht (fun z => go _ htg (hk.1 z)) (fun z => go _ hpc (hk.2 z))
      · exact lv_icmp_gt hx hb hd ht (fun z => go _ htg (hk.1 z)) (fun z => go _ hpc (hk.2 z))
      · exact lv_icmp_le hx hb hd ht (fun z => go _ htg (hk.1 z)) (fun z => go _ hpc (hk.2 z))
    · cases h
  | tableswitch d lo hi2 offs =>
    simp only [xen1, Bool.and_eq_true, decide_eq_true_eq, List.all_eq_true, List.mem_range] at h1
    obtain ⟨⟨⟨e1, e2⟩, e3⟩, e4⟩ := h1
    simp only [xexec] at h
    split at h
    · rename_i x r
      simp only [Option.some.injEq, Sum.inr.injEq] at h
      subst h
      have go : ∀ z, z < 100000 → xJ p l e R s m args below meth c Q g nL n0 m0 σ (xnx M z, lv, r, sh, o, lg) → W p l e R s m args below meth c H locs cells slots Q (F0 m z ls (r.map (xcv g))) := fun z hz2 kk => xJ_go (M := M) rfl hz2 kk H locs cells slots ls hw hS hl ha hz
      rcases xsw_inv (M := M) cs tgt x with ⟨j, t, hj, es⟩ | ⟨hno, es⟩
      · rw [es] at k
        have hjl := (List.getElem?_eq_some_iff.mp hj).1
        obtain ⟨e5, e6⟩ := e4 j hjl
        have hg : cs.getD j (0, 0) = (x, t) := by rw [List.getD_eq_getElem?_getD, hj]; rfl
        rw [hg] at e5 e6
        dsimp only at e5 e6
        have hto : (x.toInt - lo).toNat = j := by omega
        refine lv_tableIn hx hb hd (off := offs.getD j 0) (tgt := t) (by omega) (by omega) ?_ e6 (go t (hcs _ (List.mem_of_getElem? hj)) k)
        rw [hto]
        have hjo : j < offs.size := by omega
        simp [Array.getD, hjo]
      · rw [es] at k
        refine lv_tableOut hx hb hd ?_ e1 (go tgt htg k)
        rcases Int.lt_or_le x.toInt lo with q1 | q1
        · exact Or.inl q1
        rcases Int.lt_or_le hi2 x.toInt with q2 | q2
        · exact Or.inr q2
        exfalso
        have hjl : (x.toInt - lo).toNat < cs.length := by omega
        obtain ⟨e5, -⟩ := e4 _ hjl
        have hmem : cs.getD (x.toInt - lo).toNat (0, 0) ∈ cs := by
          rw [List.getD_eq_getElem?_getD, List.getElem?_eq_getElem hjl]
          exact List.getElem_mem hjl
        refine hno _ hmem (Int32.toInt_inj.mp ?_)
        rw [e5]
        omega
    · cases h
  | getstatic j =>
    have hln : ln = 3 := Nat.eq_of_beq_eq_true h2
    subst hln
    simp only [xexec] at h
    split at h
    · rename_i v hv
      have hgo := xJ_go h hpc k H locs cells slots ls hw hS hl ha hz
      rcases hTG _ _ _ hv with ⟨rfl, h9⟩ | ⟨rfl, h9⟩ | ⟨rfl, h9⟩ | ⟨rfl, h9⟩
      · rcases h9 with h9 | ⟨h9, rfl⟩
        · exact va_gets hx hb hST.1.1 hS hown (hts _ h9) (fun _ z => z) hd hgo
        · obtain ⟨cf, kf, fi, f, a, cell, q1, q2, q3, q4, q5, q6, q7, q8⟩ := hST.1.1
          rw [h9] at hown
          exact va_WgetsN hx hb hown (va_Nw.use (A := args) rfl hST.2.2.2.2.1.2) q1 q2 q3 q4 (by rw [hS.2.1 a (Array.getElem?_eq_some_iff.mp q5).1 q8]; exact q5) (fun e => by rw [e] at q6; cases q6) q7 rfl hd hgo
      · exact va_gets hx hb hST.2.1.1 hS hown (hts _ h9) (fun _ z => z) hd hgo
      · exact va_gets hx hb hST.2.2.1.1 hS hown (hts _ h9) (fun _ z => z) hd hgo
      · exact va_gets hx hb hST.2.2.1.2.1 hS hown (hts _ h9) (fun _ z => z) hd hgo
    · cases h
  | _ => exact absurd hi (by simp)
end S5
end
section
/-! SOUNDNESS 6: the heap's instructions -/
theorem xsl_app (sh : xS) (x : xSh) : xsl (sh ++ [x]) = xsl sh + xsz x := by simp [xsl]
theorem xsl_set {sh : xS} {q : Nat} {x y : xSh} (h : xnth sh q = some x) (he : xsz y = xsz x) : xsl (sh.set q y) = xsl sh := by
  unfold xsl
  induction sh generalizing q with
  | nil => cases q <;> simp [xnth] at h
  | cons a sh ih =>
    cases q with
    | zero =>
      simp only [xnth, Option.some.injEq] at h
      subst h
      simp [he]
    | succ q =>
      simp only [xnth] at h
      simp only [List.set_cons_succ, List.map_cons, List.sum_cons, ih h]
theorem xnth_app_lt {sh : xS} {x : xSh} {q : Nat} (h : q < sh.length) : xnth (sh ++ [x]) q = xnth sh q := by
  rw [xnth_get, xnth_get, List.getElem?_append_left h]
theorem xnth_app_eq {sh : xS} {x : xSh} : xnth (sh ++ [x]) sh.length = some x := by
  rw [xnth_get]; simp
theorem xget_zero (q : Nat) (σ : xM) : ∀ (tags : List Nat) (k : Nat) (o : xO) (c : Nat), xget (xzero q k tags o) σ c = if (∃ j, j < tags.length ∧ tags.getD j 2 = 0 ∧ c = 100 * q + (k + j) + 1) then (fun _ => 0) else xget o σ c := by
  intro tags
  induction tags with
  | nil => intro k o c; rw [xzero, if_neg]; rintro ⟨j, hj, -⟩; cases hj
  | cons t tags ih =>
    intro k o c
    rw [xzero, ih]
    by_cases h : ∃ j, j < tags.length ∧ tags.getD j 2 = 0 ∧ c = 100 * q + (k + 1 + j) + 1
    · rw [if_pos h, if_pos]
      obtain ⟨j, h1, h2, h3⟩ := h
      exact ⟨j + 1, by simp; omega, by simpa using h2, by omega⟩
    · rw [if_neg h]
      cases ht : Nat.beq t 0 with
      | true =>
        have ht0 : t = 0 := Nat.eq_of_beq_eq_true ht
        rw [cond_true, xget_set]
        by_cases hc : 100 * q + k + 1 = c
        · rw [if_pos hc, if_pos]
          exact ⟨0, by simp, by simpa using ht0, by omega⟩
        · rw [if_neg hc, if_neg]
          rintro ⟨j, h1, h2, h3⟩
          cases j with
          | zero => omega
          | succ j => exact h ⟨j, by simpa using h1, by simpa using h2, by omega⟩
      | false =>
        rw [cond_false, if_neg]
        rintro ⟨j, h1, h2, h3⟩
        cases j with
        | zero =>
          have : t = 0 := by simpa using h2
          subst this
          cases ht
        | succ j => exact h ⟨j, by simpa using h1, by simpa using h2, by omega⟩
/-- a world grows by a cell -/
theorem xWd_push {g : xG} {sh : xS} {σ σ' : xM} {lg lg' : Int64} {H H1 : Heap} {x : xSh} (hw : xWd g sh σ lg H) (hz : H1.size = H.size + 1) (ho : ∀ a, a < H.size → H1[a]? = H[a]?) (hσ : ∀ c, c < 100 * sh.length → σ' c = σ c) (hlg : ∀ c, c < 100 * sh.length → c = LGC → lg' = lg) (hx : xAt g σ' lg' sh.length x H1) : xWd g (sh ++ [x]) σ' lg' H1 := by
  refine ⟨by rw [List.length_append, hz, hw.1]; simp; omega, fun q y hy => ?_⟩
  by_cases h : q < sh.length
  · rw [xnth_app_lt h] at hy
    have h2 := hw.2 q y hy
    have hlt : g_a g + q < H.size := by rw [hw.1]; omega
    cases y with
    | inl p =>
      obtain ⟨ci, tags⟩ := p
      obtain ⟨r, r1, r2, r3, r4⟩ := h2
      refine ⟨r, r1, r2, r3, (r4.kept (ho _ hlt)).to (fun k hk => ?_)⟩
      have hc : 100 * q + k + 1 < 100 * sh.length := by omega
      unfold xfv
      split
      · rw [hσ _ hc]
      · by_cases he : 100 * q + k + 1 = LGC
        · rw [if_pos he, if_pos he, hlg _ hc he]
        · rw [if_neg he, if_neg he]
      · rfl
      · rfl
    | inr p =>
      obtain ⟨ch, n⟩ := p
      simp only [xAt] at h2 ⊢
      rw [ho _ hlt, hσ _ (by omega)]
      exact h2
  · have hq : q = sh.length := by
      have := xnth_lt hy
      rw [List.length_append] at this
      simp at this
      omega
    subst hq
    rw [xnth_app_eq] at hy
    cases hy
    exact hx
section S6
variable {p : Program} {l : Launch} {e : Env} {R : Room} {s : State} {m : MethodId} {args : Array Value} {below : List Frame} {meth : Method} {c : Code} {Q : State → Prop} {g : xG} {X : xX} {cc : ByteArray} {nL n0 m0 : Nat} {M : xT} {σ : xM}
theorem xaload_inv {kd pc : Nat} {lv : xL} {sh : xS} {o : xO} {lg : Int64} {st : List Value} {a : xAc} (h : xaload XP M X σ kd pc lv sh o lg st = some a) : ∃ i v r n f, st = .int i :: v :: r ∧ xarr XP X σ sh o v = some (kd, n, f) ∧ inr i n ∧ xgt M pc lv (.int (f i.toNatClampNeg) :: r) sh o lg = some a := by
  unfold xaload at h
  split at h
  · split at h
    · rename_i k n f hx
      cases hb : Nat.beq k kd with
      | true =>
        rw [hb, cond_true] at h
        have := Nat.eq_of_beq_eq_true hb
        subst this
        obtain ⟨h1, h2⟩ := x_ite h
        exact ⟨_, _, _, _, _, rfl, hx, h1, h2⟩
      | false => rw [hb] at h; cases h
    · cases h
  · cases h
theorem xastore_inv {kd pc : Nat} {lv : xL} {sh : xS} {o : xO} {lg : Int64} {st : List Value} {a : xAc} (h : xastore M σ kd pc lv sh o lg st = some a) : ∃ x i q r ch n, st = .int x :: .int i :: .ref q :: r ∧ q ≤ 899 ∧ xnth sh q = some (.inr (ch, n)) ∧ (bif ch then 1 else 0) = kd ∧ inr i n ∧ xgt M pc lv r sh (xset o (100 * q) (upd (xget o σ (100 * q)) i.toNatClampNeg (xnar kd x))) lg = some a := by
  unfold xastore at h
  split at h
  · rename_i x i q r
    cases hq : Nat.ble q 899 with
    | false => rw [hq] at h; cases h
    | true =>
      rw [hq, cond_true] at h
      split at h
      · rename_i ch n hx
        cases hb : Nat.beq (bif ch then 1 else 0) kd with
        | false => rw [hb] at h; cases h
        | true =>
          rw [hb, cond_true] at h
          obtain ⟨h1, h2⟩ := x_ite h
          exact ⟨_, _, _, _, _, _, rfl, Nat.le_of_ble_eq_true hq, hx, Nat.eq_of_beq_eq_true hb, h1, h2⟩
      · cases h
  · cases h
theorem xcv_small {q : Nat} (h : q ≤ 899) : xcv g (.ref q) = .ref (g_a g + q) := by simp only [xcv]; rw [if_pos h]
theorem vwlen {ci : Nat} {r : vw_C} (h : vwCl[ci]? = some r) : ci < 6 := (List.getElem?_eq_some_iff.mp h).1
theorem xexec_heap (Y : xYt) (hT : xTab Y) (hF : xFrm g X p s m args meth c R cc nL M) {i : Instr} {ln tgt : Nat} {cv : Int32} {cs : List (Int32 × Nat)} {pc : Nat} {lv : xL} {st : List Value} {sh : xS} {o : xO} {lg : Int64} {c' : xC} (hr : xenok cc nL (pc, i, ln, tgt, cv, cs) = true)
    (hi : match i with | .iaload | .caload | .baload | .iastore | .castore | .arraylength | .getfield _ => True | _ => False)
    (h : xexec XP M X σ i tgt cv cs (pc + ln) lv st sh o lg = some (.inr (.inr c'))) (k : xJ p l e R s m args below meth c Q g nL n0 m0 σ c') : xAtW p l e R s m args below meth c Q g nL n0 m0 σ pc lv st sh o lg := by
  obtain ⟨h3, hd, hpc, htg, hcs, h1, h2⟩ := xex_dec hr
  obtain ⟨hTF, hTF2, -, -, -, -, -, -⟩ := hT
  obtain ⟨hx, hb, hml, hown, hts, hK, hST, hs0, hini, hok, hR1, hR2⟩ := hF
  have hf := hST.2.2.1.2.2
  dsimp only at hd hpc htg h1 h2 h3 hcs
  intro H locs cells slots ls hw hS hl ha hz
  cases i with
  | iaload =>
    have hln : ln = 1 := Nat.eq_of_beq_eq_true h2
    subst hln
    obtain ⟨i, v, r, n, f, rfl, hxa, hin, hg⟩ := xaload_inv h
    obtain ⟨a, ea, hA⟩ := x_arr hs0 hK hST hS hw hxa
    rw [List.map_cons, List.map_cons, ea]
    exact x_ald hx hb hA hin hd (xJ_go hg hpc k H locs cells slots ls hw hS hl ha hz)
  | caload =>
    have hln : ln = 1 := Nat.eq_of_beq_eq_true h2
    subst hln
    obtain ⟨i, v, r, n, f, rfl, hxa, hin, hg⟩ := xaload_inv h
    obtain ⟨a, ea, hA⟩ := x_arr hs0 hK hST hS hw hxa
    rw [List.map_cons, List.map_cons, ea]
    exact x_ald hx hb hA hin hd (xJ_go hg hpc k H locs cells slots ls hw hS hl ha hz)
  | baload =>
    have hln : ln = 1 := Nat.eq_of_beq_eq_true h2
    subst hln
    obtain ⟨i, v, r, n, f, rfl, hxa, hin, hg⟩ := xaload_inv h
    obtain ⟨a, ea, hA⟩ := x_arr hs0 hK hST hS hw hxa
    rw [List.map_cons, List.map_cons, ea]
    exact x_ald hx hb hA hin hd (xJ_go hg hpc k H locs cells slots ls hw hS hl ha hz)
  | iastore =>
    have hln : ln = 1 := Nat.eq_of_beq_eq_true h2
    subst hln
    obtain ⟨x, i, q, r, ch, n, rfl, hq, hxa, hch, hin, hg⟩ := xastore_inv h
    cases ch with
    | true => cases hch
    | false =>
      rw [List.map_cons, List.map_cons, List.map_cons, xcv_small hq]
      exact x_ast hx hb hK hw hs0 hS hxa hin hd (fun H1 locs1 hw1 hS1 => xJ_go hg hpc k H1 locs1 cells slots ls hw1 hS1 hl ha hz)
  | castore =>
    have hln : ln = 1 := Nat.eq_of_beq_eq_true h2
    subst hln
    obtain ⟨x, i, q, r, ch, n, rfl, hq, hxa, hch, hin, hg⟩ := xastore_inv h
    cases ch with
    | false => cases hch
    | true =>
      rw [List.map_cons, List.map_cons, List.map_cons, xcv_small hq]
      exact x_ast hx hb hK hw hs0 hS hxa hin hd (fun H1 locs1 hw1 hS1 => xJ_go hg hpc k H1 locs1 cells slots ls hw1 hS1 hl ha hz)
  | arraylength =>
    have hln : ln = 1 := Nat.eq_of_beq_eq_true h2
    subst hln
    simp only [xexec] at h
    split at h
    · split at h
      · rename_i hxa
        obtain ⟨a, ea, hA⟩ := x_arr hs0 hK hST hS hw hxa
        rw [List.map_cons, ea]
        exact x_alen hx hb hA hd (xJ_go h hpc k H locs cells slots ls hw hS hl ha hz)
      · cases h
    · cases h
  | getfield j =>
    have hln : ln = 3 := Nat.eq_of_beq_eq_true h2
    subst hln
    simp only [xexec, xgetf] at h
    split at h
    · rename_i ci k0 ty fin hfd
      split at h
      · rename_i q r
        cases hq : Nat.ble q 899 with
        | false => rw [hq] at h; cases h
        | true =>
          rw [hq, cond_true] at h
          have hq9 : q ≤ 899 := Nat.le_of_ble_eq_true hq
          split at h
          · rename_i ci' tags hxa
            cases hcb : Nat.beq ci' ci with
            | false => rw [hcb] at h; cases h
            | true =>
              rw [hcb, cond_true] at h
              have hce := Nat.eq_of_beq_eq_true hcb
              subst hce
              rcases hTF _ _ _ _ _ _ hfd with ⟨C, T, N, hc, hk, hlk, -, -⟩ | ⟨h100, -⟩
              · have hin := (hTF2 _ _ _ _ hc).2.1
                rw [List.map_cons, xcv_small hq9]
                refine x_get hx hb hts hown hK hw hxa hc hin hk (hts _ hlk) hd ?_
                have hgd : ∀ t, xnth tags k0 = some t → tags.getD k0 2 = t := by
                  intro t ht
                  rw [xnth_get] at ht
                  rw [List.getD_eq_getElem?_getD, ht]; rfl
                split at h
                · rename_i ht
                  rw [hgd _ ht]
                  exact xJ_go h hpc k H locs cells slots ls hw hS hl ha hz
                · rename_i ht
                  rw [hgd _ ht]
                  cases hlg : Nat.beq (100 * q + k0 + 1) XP.2.2.2.2.2.2.2.2 with
                  | false => rw [hlg] at h; cases h
                  | true =>
                    rw [hlg, cond_true] at h
                    have hgo := xJ_go h hpc k H locs cells slots ls hw hS hl ha hz
                    simp only [xfv]
                    rw [if_pos (Nat.eq_of_beq_eq_true hlg)]
                    exact hgo
                · cases h
                · rename_i t ht
                  rw [hgd _ ht]
                  cases ht9 : Nat.ble t 899 with
                  | false => rw [ht9] at h; cases h
                  | true =>
                    rw [ht9, cond_true] at h
                    have hgo := xJ_go h hpc k H locs cells slots ls hw hS hl ha hz
                    rw [List.map_cons, xcv_small (Nat.le_of_ble_eq_true ht9)] at hgo
                    exact hgo
                · cases h
              · have := vwlen (hw.2 q _ hxa).choose_spec.1
                omega
          · cases h
      · rename_i w r
        cases hcb : Nat.beq ci 100 with
        | false => rw [hcb] at h; cases h
        | true =>
          rw [hcb, cond_true] at h
          have hw16 : w % 16 < 16 := Nat.mod_lt _ (by decide)
          have hV := hST.2.2.2.1.1.1 _ hw16
          rcases hTF _ _ _ _ _ _ hfd with ⟨C, T, N, hc, -⟩ | ⟨-, hs9⟩
          · have := vwlen hc
            have := Nat.eq_of_beq_eq_true hcb
            omega
          rcases hs9 with ⟨hk0, hlk⟩ | ⟨hk0, hlk⟩
          · subst hk0
            have hgo := xJ_go h hpc k H locs cells slots ls hw hS hl ha hz
            rw [List.map_cons] at hgo
            have e1 : xcv g (.float (UInt32.ofNat (w % 4096))) = .ref (g_V g (w % 16)) := by
              simp only [xcv]
              congr 2
              have : (UInt32.ofNat (w % 4096)).toNat = w % 4096 := by
                rw [UInt32.toNat_ofNat']
                omega
              rw [this]
              omega
            rw [e1] at hgo
            exact vk_getf hx hb hV.2.2.1 hS hown (hts _ hlk) (fun _ z => z) hd hgo
          · subst hk0
            exact vk_getf hx hb hV.2.1 hS hown (hts _ hlk) (fun _ z => z) hd (xJ_go h hpc k H locs cells slots ls hw hS hl ha hz)
      · cases h
    · cases h
  | _ => exact absurd hi (by simp)
end S6
end
section
/-! SOUNDNESS 7: writes of fields, new cells, copies -/
theorem set_same {sh : xS} {q : Nat} {x : xSh} (h : xnth sh q = some x) : sh = sh.set q x := by
  rw [xnth_get] at h
  obtain ⟨h1, h2⟩ := List.getElem?_eq_some_iff.mp h
  rw [← h2, List.set_getElem_self]
theorem xmem_of : ∀ {l : List Nat} {k d i : Nat}, k < l.length → l.getD k d = i → xmem l i = true := by
  intro l
  induction l with
  | nil => intro k d i h; cases h
  | cons a l ih =>
    intro k d i hk h
    rw [xmem]
    cases hb : Nat.beq a i with
    | true => rfl
    | false =>
      rw [cond_false]
      cases k with
      | zero =>
        have : a = i := by simpa using h
        rw [this, xq_t] at hb
        cases hb
      | succ k => exact ih (by simpa using hk) (by simpa using h)
section S7
variable {p : Program} {l : Launch} {e : Env} {R : Room} {s : State} {m : MethodId} {args : Array Value} {below : List Frame} {meth : Method} {c : Code} {Q : State → Prop} {g : xG} {X : xX} {cc : ByteArray} {nL n0 m0 : Nat} {M : xT} {σ : xM}
theorem xputf_inv {idx pc : Nat} {lv : xL} {sh : xS} {o : xO} {lg : Int64} {st : List Value} {a : xAc} (h : xputf XP M σ idx pc lv sh o lg st = some a) :
    ∃ ci k ty fin v q r tags, xfind (xFT.getD M.1 []) idx = some (ci, k, ty, fin) ∧ (fin = true → M.2.2.2.2.1 = true ∧ M.1 = ci + 1) ∧ st = v :: .ref q :: r ∧ q ≤ 899 ∧ xnth sh q = some (.inl (ci, tags)) ∧
    ((∃ x, xnth tags k = some 0 ∧ v = .int x ∧ (ty = .int ∨ (ty = .boolean ∧ (x = 0 ∨ x = 1))) ∧ xgt M pc lv r sh (xset o (100 * q + k + 1) (fun _ => x)) lg = some a) ∨
     (∃ x, xnth tags k = some 1 ∧ v = .long x ∧ ty = .long ∧ 100 * q + k + 1 = LGC ∧ xgt M pc lv r sh o x = some a) ∨
     (∃ t, xnth tags k = some 2 ∧ v = .ref t ∧ t ≤ 899 ∧ ((∃ n, ty = .object n) ∨ ∃ n, ty = .array n) ∧ xgt M pc lv r (sh.set q (.inl (ci, tags.set k (t + 3)))) o lg = some a)) := by
  unfold xputf at h
  split at h
  · rename_i ci k ty fin hfd
    cases hcnd : (!fin || (M.2.2.2.2.1 && Nat.beq M.1 (ci + 1))) with
    | false => rw [hcnd] at h; cases h
    | true =>
      rw [hcnd, cond_true] at h
      split at h
      · rename_i v q r
        cases hq : Nat.ble q 899 with
        | false => rw [hq] at h; cases h
        | true =>
          rw [hq, cond_true] at h
          split at h
          · rename_i ci' tags hxa
            cases hcb : Nat.beq ci' ci with
            | false => rw [hcb] at h; cases h
            | true =>
              rw [hcb, cond_true] at h
              have hce := Nat.eq_of_beq_eq_true hcb
              subst hce
              refine ⟨ci', k, ty, fin, v, q, r, tags, hfd, fun hf => ?_, rfl, Nat.le_of_ble_eq_true hq, hxa, ?_⟩
              · rw [hf] at hcnd
                simp only [Bool.not_true, Bool.false_or, Bool.and_eq_true] at hcnd
                exact ⟨hcnd.1, Nat.eq_of_beq_eq_true hcnd.2⟩
              · split at h
                · rename_i x ht
                  exact Or.inl ⟨_, ht, rfl, Or.inl rfl, h⟩
                · rename_i x ht
                  obtain ⟨h1, h2⟩ := x_ite h
                  exact Or.inl ⟨_, ht, rfl, Or.inr ⟨rfl, h1⟩, h2⟩
                · rename_i x ht
                  cases hlg : Nat.beq (100 * q + k + 1) XP.2.2.2.2.2.2.2.2 with
                  | false => rw [hlg] at h; cases h
                  | true =>
                    rw [hlg, cond_true] at h
                    exact Or.inr (Or.inl ⟨_, ht, rfl, rfl, Nat.eq_of_beq_eq_true hlg, h⟩)
                · rename_i t n ht
                  cases ht9 : Nat.ble t 899 with
                  | false => rw [ht9] at h; cases h
                  | true =>
                    rw [ht9, cond_true] at h
                    exact Or.inr (Or.inr ⟨_, ht, rfl, Nat.le_of_ble_eq_true ht9, Or.inl ⟨_, rfl⟩, h⟩)
                · rename_i t n ht
                  cases ht9 : Nat.ble t 899 with
                  | false => rw [ht9] at h; cases h
                  | true =>
                    rw [ht9, cond_true] at h
                    exact Or.inr (Or.inr ⟨_, ht, rfl, Nat.le_of_ble_eq_true ht9, Or.inr ⟨_, rfl⟩, h⟩)
                · cases h
          · cases h
      · cases h
  · cases h
theorem xexec_put (Y : xYt) (hT : xTab Y) (hF : xFrm g X p s m args meth c R cc nL M) {idx ln tgt : Nat} {cv : Int32} {cs : List (Int32 × Nat)} {pc : Nat} {lv : xL} {st : List Value} {sh : xS} {o : xO} {lg : Int64} {c' : xC} (hr : xenok cc nL (pc, .putfield idx, ln, tgt, cv, cs) = true)
    (h : xexec XP M X σ (.putfield idx) tgt cv cs (pc + ln) lv st sh o lg = some (.inr (.inr c'))) (k : xJ p l e R s m args below meth c Q g nL n0 m0 σ c') : xAtW p l e R s m args below meth c Q g nL n0 m0 σ pc lv st sh o lg := by
  obtain ⟨h3, hd, hpc, htg, hcs, h1, h2⟩ := xex_dec hr
  obtain ⟨hTF, hTF2, -, -, -, -, -, -⟩ := hT
  obtain ⟨hx, hb, hml, hown, hts, hK, hST, hs0, hini, hok, hR1, hR2⟩ := hF
  dsimp only at hd hpc htg h1 h2 h3 hcs
  have hln : ln = 3 := Nat.eq_of_beq_eq_true h2
  subst hln
  intro H locs cells slots ls hw hS hl ha hz
  obtain ⟨ci, k0, ty, fin, v, q, r, tags, hfd, hfin, rfl, hq, hxa, hcase⟩ := xputf_inv (σ := σ) h
  rcases hTF _ _ _ _ _ _ hfd with ⟨C, T, N, hc, hk, hlk, hpd, hfn⟩ | ⟨h100, -⟩
  · obtain ⟨hC, hin, ⟨ty0, hty0⟩, hnm, hdecl⟩ := hTF2 _ _ _ _ hc
    have hNt : N = tags.length := by
      obtain ⟨r', r1, r2, -⟩ := hw.2 q _ hxa
      rw [hc] at r1
      cases r1
      exact r2
    have h90 : tags.length ≤ 90 := (hw.2 q _ hxa).choose_spec.2.2.1
    have hfin2 : (T k0).2.2.2 = false ∨ ((T k0).2.2.2 = true ∧ meth.name = "<init>" ∧ (T k0).1 = xR M.1) := by
      cases fin with
      | false => exact Or.inl hfn
      | true =>
        obtain ⟨f1, f2⟩ := hfin rfl
        exact Or.inr ⟨hfn, hini f1, by rw [hdecl k0 hk, hC, f2]⟩
    have hgd : ∀ t, xnth tags k0 = some t → tags.getD k0 2 = t := by
      intro t ht
      rw [xnth_get] at ht
      rw [List.getD_eq_getElem?_getD, ht]; rfl
    have hkt : k0 < tags.length := by omega
    rw [List.map_cons, List.map_cons, xcv_small hq]
    rcases hcase with ⟨x, ht, rfl, hty, hg⟩ | ⟨x, ht, rfl, rfl, hL, hg⟩ | ⟨t, ht, rfl, ht9, hty, hg⟩
    · have hn : narrow ty (.int x) = .int x ∧ fits ty (.int x) = true := by
        rcases hty with rfl | ⟨rfl, rfl | rfl⟩
        · exact ⟨rfl, rfl⟩
        · exact ⟨rfl, rfl⟩
        · exact ⟨rfl, rfl⟩
      refine x_put hx hb hts ty0 hty0 hnm hown hK hw hS hxa hc hin hk (hts _ hlk) hpd hn.1 hn.2 hfin2 hd (fun H1 locs1 hr1 hz1 ho1 hS1 => ?_)
      refine xJ_go hg hpc k H1 locs1 cells slots ls (xWd_fld (v := .int x) (o := o) (σ := xget o σ) hw hxa hkt (set_same hxa) rfl (fun _ _ => rfl) ?_ ?_ ?_ hr1 hz1 ho1) hS1 hl ha hz
      · rw [hgd _ ht]
        simp only [xfv]
        rw [xget_set, if_pos rfl]
      · intro c t hct
        unfold xfv
        split
        · rw [xget_set, if_neg (fun z => hct z.symm)]
        · rfl
        · rfl
        · rfl
      · intro c hc0
        rw [xget_set, if_neg (by omega)]
    · refine x_put hx hb hts ty0 hty0 hnm hown hK hw hS hxa hc hin hk (hts _ hlk) hpd rfl rfl hfin2 hd (fun H1 locs1 hr1 hz1 ho1 hS1 => ?_)
      refine xJ_go hg hpc k H1 locs1 cells slots ls (xWd_fld (v := .long x) (o := o) (σ := xget o σ) hw hxa hkt (set_same hxa) rfl (fun _ _ => rfl) ?_ ?_ (fun _ _ => rfl) hr1 hz1 ho1) hS1 hl ha hz
      · rw [hgd _ ht]
        simp only [xfv]
        rw [if_pos hL]
      · intro c t hct
        unfold xfv
        split
        · rfl
        · rw [if_neg (fun z => hct (z.trans hL.symm)), if_neg (fun z => hct (z.trans hL.symm))]
        · rfl
        · rfl
    · have hn : narrow ty (.ref (g_a g + t)) = .ref (g_a g + t) ∧ fits ty (.ref (g_a g + t)) = true := by
        rcases hty with ⟨n, rfl⟩ | ⟨n, rfl⟩ <;> exact ⟨rfl, rfl⟩
      rw [xcv_small ht9]
      refine x_put hx hb hts ty0 hty0 hnm hown hK hw hS hxa hc hin hk (hts _ hlk) hpd hn.1 hn.2 hfin2 hd (fun H1 locs1 hr1 hz1 ho1 hS1 => ?_)
      refine xJ_go hg hpc k H1 locs1 cells slots ls (xWd_fld (v := .ref (g_a g + t)) (o := o) (σ := xget o σ) hw hxa hkt rfl (by rw [List.length_set]) ?_ ?_ (fun _ _ _ => rfl) (fun _ _ => rfl) hr1 hz1 ho1) hS1 hl (by rw [List.length_set]; exact ha) ?_
      · intro j hj
        rw [List.getD_eq_getElem?_getD, List.getElem?_set, if_neg (fun z => hj z.symm), ← List.getD_eq_getElem?_getD]
      · rw [List.getD_eq_getElem?_getD, List.getElem?_set, if_pos rfl, if_pos hkt]
        rfl
      · rw [xsl_set hxa (by simp [xsz])]
        exact hz
  · have := vwlen (hw.2 q _ hxa).choose_spec.1
    omega
theorem xexec_new (Y : xYt) (hT : xTab Y) (hF : xFrm g X p s m args meth c R cc nL M) {idx ln tgt : Nat} {cv : Int32} {cs : List (Int32 × Nat)} {pc : Nat} {lv : xL} {st : List Value} {sh : xS} {o : xO} {lg : Int64} {c' : xC} (hr : xenok cc nL (pc, .new idx, ln, tgt, cv, cs) = true) (hroom : c'.2.2.2.1.length ≤ n0 + R.cells ∧ xsl c'.2.2.2.1 ≤ m0 + R.slots)
    (h : xexec XP M X σ (.new idx) tgt cv cs (pc + ln) lv st sh o lg = some (.inr (.inr c'))) (k : xJ p l e R s m args below meth c Q g nL n0 m0 σ c') : xAtW p l e R s m args below meth c Q g nL n0 m0 σ pc lv st sh o lg := by
  obtain ⟨h3, hd, hpc, htg, hcs, h1, h2⟩ := xex_dec hr
  obtain ⟨-, hTF2, -, -, hTN, -, -, -⟩ := hT
  obtain ⟨hx, hb, hml, hown, hts, hK, hST, hs0, hini, hok, hR1, hR2⟩ := hF
  dsimp only at hd hpc htg h1 h2 h3 hcs
  have hln : ln = 3 := Nat.eq_of_beq_eq_true h2
  subst hln
  intro H locs cells slots ls hw hS hl ha hz
  simp only [xexec] at h
  split at h
  · rename_i ci tags hfd
    cases hcnd : (Nat.ble sh.length 899 && (!(xmem tags 1) || Nat.ble (100 * sh.length) XP.2.2.2.2.2.2.2.2)) with
    | false => rw [hcnd] at h; cases h
    | true =>
      rw [hcnd, cond_true] at h
      simp only [Bool.and_eq_true, Bool.or_eq_true, Bool.not_eq_true'] at hcnd
      obtain ⟨hcnd0, hcnd⟩ := hcnd
      have h899 : sh.length ≤ 899 := Nat.le_of_ble_eq_true hcnd0
      obtain ⟨C, T, N, hc, hN, h90, hcl, hins, hint, hdef, -, -⟩ := hTN _ _ _ _ hfd
      obtain ⟨hC, hin, ⟨ty0, hty0⟩, hnm, hdecl⟩ := hTF2 _ _ _ _ hc
      have hKn := hK.1 ci _ hc
      have hsh : c'.2.2.2.1 = sh ++ [.inl (ci, tags)] := by
        unfold xgt at h
        simp only [Option.some.injEq, Sum.inr.injEq] at h
        rw [← h]
      rw [hsh, xsl_app, List.length_append] at hroom
      have hr1 : sh.length + 1 ≤ n0 + R.cells := hroom.1
      have hr2 : xsl sh + tags.length ≤ m0 + R.slots := hroom.2
      refine W.newcK hx hb hown (hts _ hcl) (hts _ hins) (hts _ hint) rfl hd (by omega) (by omega) hKn.2.1 hw.1 fun H1 kC hkC e1 z1 o1 => ?_
      have hgo := xJ_go h hpc k H1 locs (cells + 1) (slots + N) ls ?_ ?_ hl (by rw [List.length_append]; simp; omega) (by rw [xsl_app]; show slots + N + m0 = xsl sh + tags.length; omega)
      · rw [List.map_cons, xcv_small h899] at hgo
        exact hgo
      · have hout : ∀ c, c < 100 * sh.length → ¬ ∃ j, j < tags.length ∧ tags.getD j 2 = 0 ∧ c = 100 * sh.length + (0 + j) + 1 := by
          rintro c hc ⟨j, -, -, h9⟩
          omega
        refine xWd_push hw (by have := hw.1; omega) (fun a ha2 => o1 a (by have := hw.1; omega)) (fun c hc2 => by rw [xget_zero, if_neg (hout c hc2)]) (fun c hc2 hL => ?_) ⟨_, hc, hN.symm, by omega, (u_born ty0 hts hin hKn hkC e1 hty0).to (fun j hj => ?_)⟩
        · cases hm : xmem tags 1 with
          | false => rfl
          | true =>
            exfalso
            rcases hcnd with h9 | h9
            · rw [hm] at h9; cases h9
            · have h10 := Nat.le_of_ble_eq_true h9
              have h11 : c = XP.2.2.2.2.2.2.2.2 := hL
              omega
        · obtain ⟨ty, hp, hdv, hle⟩ := hdef j hj
          have hte : ty0 j = ty := by
            have := (hty0 j hj).symm.trans hp
            simpa using this
          have hj2 : j < tags.length := by omega
          show defaultValue (ty0 j) = xfv g _ _ _ (tags.getD j 2)
          rw [hte, hdv]
          rcases (show tags.getD j 2 = 0 ∨ tags.getD j 2 = 1 ∨ tags.getD j 2 = 2 by omega) with h9 | h9 | h9
          · rw [h9]
            simp only [xfv]
            rw [xget_zero, if_pos ⟨j, hj2, h9, by omega⟩]
          · have hm := xmem_of hj2 h9
            rw [h9, hm]
            simp only [xfv, cond_true]
            split <;> rfl
          · rw [h9]
            rfl
      · exact ⟨by have := hS.1; have := hw.1; omega, fun x g1 g2 => (o1 x (by have := hS.1; have := hw.1; omega)).trans (hS.2.1 x g1 g2), hS.2.2⟩
  · cases h
theorem xexec_newa (Y : xYt) (hT : xTab Y) (hF : xFrm g X p s m args meth c R cc nL M) {aty : ArrayType} {ln tgt : Nat} {cv : Int32} {cs : List (Int32 × Nat)} {pc : Nat} {lv : xL} {st : List Value} {sh : xS} {o : xO} {lg : Int64} {c' : xC} (hr : xenok cc nL (pc, .newarray aty, ln, tgt, cv, cs) = true) (hroom : c'.2.2.2.1.length ≤ n0 + R.cells ∧ xsl c'.2.2.2.1 ≤ m0 + R.slots)
    (h : xexec XP M X σ (.newarray aty) tgt cv cs (pc + ln) lv st sh o lg = some (.inr (.inr c'))) (k : xJ p l e R s m args below meth c Q g nL n0 m0 σ c') : xAtW p l e R s m args below meth c Q g nL n0 m0 σ pc lv st sh o lg := by
  obtain ⟨h3, hd, hpc, htg, hcs, h1, h2⟩ := xex_dec hr
  obtain ⟨-, hTF2, -, -, -, hTW, -, -⟩ := hT
  obtain ⟨hx, hb, hml, hown, hts, hK, hST, hs0, hini, hok, hR1, hR2⟩ := hF
  dsimp only at hd hpc htg h1 h2 h3 hcs
  have hln : ln = 2 := Nat.eq_of_beq_eq_true h2
  subst hln
  intro H locs cells slots ls hw hS hl ha hz
  simp only [xexec] at h
  have push : ∀ (ch : Bool) (n : Int32) (r : List Value) (H1 : Heap), xgt M (pc + 2) lv (.ref sh.length :: r) (sh ++ [.inr (ch, n.toNatClampNeg)]) (xset o (100 * sh.length) (fun _ => 0)) lg = some (.inr (.inr c')) → sh.length ≤ 899 → H1[g_a g + sh.length]? = some (arrV (bif ch then g_C g else g_I g) n.toNatClampNeg (fun _ => .int 0)) → H1.size = (g_a g + sh.length) + 1 → (∀ q, q < g_a g + sh.length → H1[q]? = H[q]?) → W p l e R s m args below meth c H1 locs (cells + 1) (slots + n.toNatClampNeg) Q (F0 m (pc + 2) ls (.ref (g_a g + sh.length) :: r.map (xcv g))) := by
    intro ch n r H1 hg h899 e1 z1 o1
    have hgo := xJ_go hg hpc k H1 locs (cells + 1) (slots + n.toNatClampNeg) ls ?_ ?_ hl (by rw [List.length_append]; simp; omega) (by rw [xsl_app]; show slots + n.toNatClampNeg + m0 = xsl sh + n.toNatClampNeg; omega)
    · rw [List.map_cons, xcv_small h899] at hgo
      exact hgo
    · refine xWd_push hw (by have := hw.1; omega) (fun a ha2 => o1 a (by have := hw.1; omega)) (fun c hc2 => by rw [xget_set, if_neg (by omega)]) (fun _ _ _ => rfl) ?_
      simp only [xAt]
      rw [xget_set, if_pos rfl]
      exact e1
    · exact ⟨by have := hS.1; have := hw.1; omega, fun x g1 g2 => (o1 x (by have := hS.1; have := hw.1; omega)).trans (hS.2.1 x g1 g2), hS.2.2⟩
  have hro : ∀ (ch : Bool) (n : Int32) (r : List Value), xgt M (pc + 2) lv (.ref sh.length :: r) (sh ++ [.inr (ch, n.toNatClampNeg)]) (xset o (100 * sh.length) (fun _ => 0)) lg = some (.inr (.inr c')) → cells + 1 ≤ R.cells ∧ slots + n.toNatClampNeg ≤ R.slots := by
    intro ch n r hg
    have hsh : c'.2.2.2.1 = sh ++ [.inr (ch, n.toNatClampNeg)] := by
      unfold xgt at hg
      simp only [Option.some.injEq, Sum.inr.injEq] at hg
      rw [← hg]
    rw [hsh, xsl_app, List.length_append] at hroom
    have hr1 : sh.length + 1 ≤ n0 + R.cells := hroom.1
    have hr2 : xsl sh + n.toNatClampNeg ≤ m0 + R.slots := hroom.2
    omega
  have hnn : ∀ n : Int32, 0 ≤ n.toInt → ¬ n < 0 := by
    intro n h0 hlt
    have := Int32.lt_iff_toInt_lt.mp hlt
    have hz0 : (0 : Int32).toInt = 0 := rfl
    omega
  split at h
  · rename_i n r
    obtain ⟨⟨⟨q1, q2⟩, h899⟩, hg⟩ := x_ite h
    obtain ⟨r1, r2⟩ := hro _ _ _ hg
    have hnl : n.toNatClampNeg ≤ 65536 := by show n.toInt.toNat ≤ 65536; omega
    refine va_newaK (atype := .int) hx hb (hts _ hTW.1) rfl hd rfl (hnn n q1) rfl (by show n.toNatClampNeg * 4 ≤ 536870912; omega) r1 r2 hw.1 fun H1 cA e1 z1 o1 hAr hNm => ?_
    have hI : cA = g_I g := by
      have h9 : s.vm.findClass ("[" ++ (FieldType.int).toString) = some (g_I g) := (hK.2 0 _ rfl).2
      exact Option.some.inj (hNm.symm.trans h9)
    subst hI
    exact push false n r H1 hg h899 e1 z1 o1
  · rename_i n r
    obtain ⟨⟨⟨q1, q2⟩, h899⟩, hg⟩ := x_ite h
    obtain ⟨r1, r2⟩ := hro _ _ _ hg
    have hnl : n.toNatClampNeg ≤ 65536 := by show n.toInt.toNat ≤ 65536; omega
    refine va_newaK (atype := .char) hx hb (hts _ hTW.2.1) rfl hd rfl (hnn n q1) rfl (by show n.toNatClampNeg * 2 ≤ 536870912; omega) r1 r2 hw.1 fun H1 cA e1 z1 o1 hAr hNm => ?_
    have hI : cA = g_C g := by
      have h9 : s.vm.findClass ("[" ++ (FieldType.char).toString) = some (g_C g) := (hK.2 1 _ rfl).2
      exact Option.some.inj (hNm.symm.trans h9)
    subst hI
    exact push true n r H1 hg h899 e1 z1 o1
  · cases h
end S7
end
section
/-! SOUNDNESS 8: copies, Math, labels; every simple step -/
section S8
variable {p : Program} {l : Launch} {e : Env} {R : Room} {s : State} {m : MethodId} {args : Array Value} {below : List Frame} {meth : Method} {c : Code} {H : Heap} {locs : List Loc} {cells slots : Nat} {Q : State → Prop}
variable {cc : ByteArray} {pc : Nat} {ls : Array Slot} {rest : List Value} {g : xG} {sh : xS} {σ : xM} {o : xO} {lg : Int64} {X : xX} {nL n0 m0 : Nat} {M : xT}
theorem x_copy (hexec : p.tables.exec = Jvm.exec) (hb : c.code = cc) (hml : c.maxLocals = ls.size) {own : String} {index : Nat} (hown : s.vm.findClass own = some m.cls) (hlink : (Cond.methodLink own index arraycopyName).before args s = true) (hnat : (Cond.native arraycopyName).before args s = true) (hstat : (Cond.static arraycopyName).before args s = true) (hini : (Cond.initialized "java/lang/System").before args s = true)
    (hK : xKK g s) (hw : xWd g sh (xget o σ) lg H) (hS : va_S (g_A g) s.heap H locs) {q0 q1 k0 k1 : Nat} (hq0 : xnth sh q0 = some (.inr (false, k0))) (hq1 : xnth sh q1 = some (.inr (false, k1)))
    {sp dp n : Int32} (h1 : ¬ sp < 0) (h2 : ¬ dp < 0) (h3 : ¬ n < 0) (h4 : sp.toNatClampNeg + n.toNatClampNeg ≤ k0) (h5 : dp.toNatClampNeg + n.toNatClampNeg ≤ k1)
    (hframes : 1 ≤ R.frames) (hlocals : (rest.map fun v => v.category).sum + (nativeFrameWords "java/lang/System" "arraycopy" 5 + 11) ≤ R.locals) (hdg : decode cc pc = .ok (.invokestatic index, 3))
    (kk : ∀ (H1 : Heap) (locs1 : List Loc), xWd g sh (xget (xset o (100 * q1) (va_cpy (xget o σ (100 * q0)) (xget o σ (100 * q1)) sp.toNatClampNeg dp.toNatClampNeg n.toNatClampNeg)) σ) lg H1 → va_S (g_A g) s.heap H1 locs1 → W p l e R s m args below meth c H1 locs1 cells slots Q (F0 m (pc + 3) ls rest)) : W p l e R s m args below meth c H locs cells slots Q (F0 m pc ls (.int n :: .int dp :: .ref (g_a g + q1) :: .int sp :: .ref (g_a g + q0) :: rest)) := by
  have nn : ∀ z : Int32, ¬ z < 0 → z.toInt = (z.toNatClampNeg : Int) := by
    intro z hz
    have hz0 : (0 : Int) ≤ z.toInt := by
      have := Int32.not_lt.mp hz
      simpa using Int32.le_iff_toInt_le.mp this
    show z.toInt = ((z.toInt.toNat : Nat) : Int)
    omega
  intro T hT X
  have hc0 : H[g_a g + q0]? = some (vp_cell (g_I g) (k0, .inl (xget o σ (100 * q0)))) := hw.2 q0 _ hq0
  have hc1 : H[g_a g + q1]? = some (vp_cell (g_I g) (k1, .inl (xget o σ (100 * q1)))) := hw.2 q1 _ hq1
  generalize hf : xget o σ (100 * q0) = f at hc0 kk
  generalize hg : xget o σ (100 * q1) = f1 at hc1 kk
  obtain ⟨-, c0, hk0, cm0, hkk0⟩ := (hK.2 0 _ rfl).1 k0 (fun j => .int (f j))
  obtain ⟨-, c1, hk1, cm1, hkk1⟩ := (hK.2 0 _ rfl).1 k1 (fun j => .int (f1 j))
  obtain ⟨vm', X', step⟩ := X.arraycopy hexec hown hlink hnat hstat hini (src := g_a g + q0) (dst := g_a g + q1) (cs := vp_cell (g_I g) (k0, .inl f)) (cd := vp_cell (g_I g) (k1, .inl f1)) (srcPos := sp) (destPos := dp) (n := n) (by rw [hT]; exact hc0) (by rw [hT]; exact hc1)
    (fun _ h => by cases h) (fun _ h => by cases h) (fun h => by cases h) (fun h => by cases h) hk0 hk1 hkk0 hkk1 (by simp [refKind]) h1 h2 h3
    (by rw [nn sp h1, nn n h3]; show ¬ _ > ((arrV _ k0 (fun j => .int (f j))).slots.size : Int); rw [arrV_size]; omega)
    (by rw [nn dp h2, nn n h3]; show ¬ _ > ((arrV _ k1 (fun j => .int (f1 j))).slots.size : Int); rw [arrV_size]; omega)
    (fun vm₁ _ i hi => by
      have e : (vp_cell (g_I g) (k0, .inl f)).slots.getD (sp.toNatClampNeg + i) .null = .int (f (sp.toNatClampNeg + i)) := by
        show (arrV _ k0 (fun j => .int (f j))).slots.getD _ _ = _
        rw [Array.getD_eq_getD_getElem?, arrV_read _ _ (by omega)]
        rfl
      refine ⟨?_, ?_⟩
      · rw [e]
        rfl
      · rw [e]
        exact trivial)
    (g := F0 m pc ls (.int n :: .int dp :: .ref (g_a g + q1) :: .int sp :: .ref (g_a g + q0) :: rest)) rfl (by rw [hml]) (rest := rest) rfl (by rw [hb]; exact hdg) hframes (by show 2 * 0 + _ + _ ≤ _; omega)
  have e1 : copied (vp_cell (g_I g) (k0, .inl f)) (vp_cell (g_I g) (k1, .inl f1)) sp dp n = vp_cell (g_I g) (k1, .inl (va_cpy f f1 sp.toNatClampNeg dp.toNatClampNeg n.toNatClampNeg)) := va_copied (fun z => .int z) _ _ f f1 h4
  rw [e1] at X' step
  have hl : g_a g + q1 < H.size := (Array.getElem?_eq_some_iff.mp hc1).1
  have hheap : ((T.setVm vm').setCell (g_a g + q1) (vp_cell (g_I g) (k1, .inl (va_cpy f f1 sp.toNatClampNeg dp.toNatClampNeg n.toNatClampNeg)))).heap = H.setIfInBounds (g_a g + q1) (vp_cell (g_I g) (k1, .inl (va_cpy f f1 sp.toNatClampNeg dp.toNatClampNeg n.toNatClampNeg))) := by rw [← hT]; rfl
  have oq : ∀ q : Nat, q ≠ g_a g + q1 → (H.setIfInBounds (g_a g + q1) (vp_cell (g_I g) (k1, .inl (va_cpy f f1 sp.toNatClampNeg dp.toNatClampNeg n.toNatClampNeg))))[q]? = H[q]? := fun q hq => by simp [Array.getElem?_setIfInBounds, Ne.symm hq]
  have hA1 : g_A g (g_a g + q1) := by show g_a g ≤ g_a g + q1; omega
  obtain ⟨t, a1, b1⟩ := kk _ _ (xWd_arr hw hq1 (show (H.setIfInBounds (g_a g + q1) _)[g_a g + q1]? = some _ by simp [Array.getElem?_setIfInBounds, hl]; rfl) (by simp) oq) ⟨by simp; exact hS.1, fun q g1 g2 => by
      rw [oq q (fun e => g2 (by rw [e]; exact hA1))]
      exact hS.2.1 q g1 g2, fun q hq => by
      rcases List.mem_append.mp hq with h | h
      · exact hS.2.2 q h
      · obtain ⟨z, -, hz⟩ := List.mem_map.mp h
        rw [← hz]
        exact hA1⟩ _ hheap X'
  exact ⟨t, step t a1, b1⟩
theorem xcat_cv (hf : g_f g = .null ∨ ∃ a, g_f g = .ref a) (st : List Value) : ((st.map (xcv g)).map fun v => v.category).sum = xcat st := by
  unfold xcat
  rw [List.map_map]
  congr 1
  refine List.map_congr_left fun v _ => ?_
  exact xcv_cat g hf v
theorem xcall_simple (Y : xYt) (hT : xTab Y) (hF : xFrm g X p s m args meth c R cc nL M) {kd idx : Nat} {lv : xL} {st : List Value} {c' : xC} {i : Instr} (hroom : c'.2.2.2.1.length ≤ n0 + R.cells ∧ xsl c'.2.2.2.1 ≤ m0 + R.slots)
    (hd : decode cc pc = .ok (i, 3)) (hi : (kd = 4 → i = .invokespecial idx) ∧ (kd ≠ 4 → 3 ≤ kd → i = .invokestatic idx)) (hpc : pc + 3 < 100000)
    (h : xcallA XP M σ kd idx (pc + 3) lv sh o lg st = some (.inr (.inr c'))) (k : xJ p l e R s m args below meth c Q g nL n0 m0 σ c') : xAtW p l e R s m args below meth c Q g nL n0 m0 σ pc lv st sh o lg := by
  obtain ⟨-, -, -, -, -, hTW, hTC, -⟩ := hT
  obtain ⟨hx, hb, hml, hown, hts, hK, hST, hs0, hini, hok, hR1, hR2⟩ := hF
  have hf := hST.2.2.1.2.2
  obtain ⟨-, -, tW1, tW2, tW3, tW4, tW5, tW6, ⟨tW7, tW8⟩, ⟨tW9, tW10⟩, ⟨tW11, tW12⟩⟩ := hTW
  intro H locs cells slots ls hw hS hl ha hz
  have hnl : c.maxLocals = ls.size := hml.trans hl.1.symm
  unfold xcallA at h
  split at h
  · rename_i kind k' n rcv hfd
    cases hkb : Nat.beq kind kd with
    | false => rw [hkb] at h; cases h
    | true =>
      rw [hkb, cond_true] at h
      have hke := Nat.eq_of_beq_eq_true hkb
      subst hke
      have hcr : ∀ {st'}, xgt M (pc + 3) lv st' sh o lg = some (.inr (.inr c')) → cells ≤ R.cells ∧ slots ≤ R.slots := by
        intro st' hg
        have hsh : c'.2.2.2.1 = sh := by
          unfold xgt at hg
          simp only [Option.some.injEq, Sum.inr.injEq] at hg
          rw [← hg]
        rw [hsh] at hroom
        omega
      have hTC2 := hTC _ _ _ _ _ _ hfd
      cases h3 : Nat.beq kind 3 with
      | true =>
        rw [h3, cond_true] at h
        have hk3 := Nat.eq_of_beq_eq_true h3
        subst hk3
        have hie := hi.2 (by decide) (by decide)
        subst hie
        have hlk : Cond.methodLink (xR M.1) idx arraycopyName ∈ xTs := by
          rcases hTC2 with ⟨z, -⟩ | ⟨z, -⟩ | ⟨z, -⟩ | ⟨-, z⟩ | ⟨z, -⟩ | ⟨z, -⟩ | ⟨z, -⟩ | ⟨z, -⟩ <;> first | exact z | cases z
        split at h
        · rename_i n dp q1 sp q0 r
          cases hq : (Nat.ble q0 899 && (Nat.ble q1 899 && Nat.ble (xcat r) 8)) with
          | false => rw [hq] at h; cases h
          | true =>
            rw [hq, cond_true] at h
            simp only [Bool.and_eq_true] at hq
            obtain ⟨hq0, hq1, hr8⟩ := hq
            split at h
            · rename_i k0 k1 hx0 hx1
              obtain ⟨⟨c1, c2, c3, c4, c5⟩, hg⟩ := x_ite h
              have hnn : ∀ n : Int32, 0 ≤ n.toInt → ¬ n < 0 := by
                intro n h0 hlt
                have := Int32.lt_iff_toInt_lt.mp hlt
                have hz0 : (0 : Int32).toInt = 0 := rfl
                omega
              rw [List.map_cons, List.map_cons, List.map_cons, List.map_cons, List.map_cons, xcv_small (Nat.le_of_ble_eq_true hq0), xcv_small (Nat.le_of_ble_eq_true hq1)]
              have h8 := Nat.le_of_ble_eq_true hr8
              refine x_copy hx hb hnl hown (hts _ hlk) (hts _ tW1) (hts _ tW2) (hts _ tW3) hK hw hS hx0 hx1 (hnn _ c1) (hnn _ c2) (hnn _ c3) (by show sp.toInt.toNat + n.toInt.toNat ≤ k0; omega) (by show dp.toInt.toNat + n.toInt.toNat ≤ k1; omega) hR1 ?_ hd (fun H1 locs1 hw1 hS1 => xJ_go hg hpc k H1 locs1 cells slots ls hw1 hS1 hl ha hz)
              rw [xcat_cv hf]
              have : nativeFrameWords "java/lang/System" "arraycopy" 5 = 7 := by decide +kernel
              omega
            · cases h
        · cases h
      | false =>
        rw [h3, cond_false] at h
        cases h4 : Nat.beq kind 4 with
        | true =>
          rw [h4, cond_true] at h
          have hk4 := Nat.eq_of_beq_eq_true h4
          subst hk4
          have hie := hi.1 rfl
          subst hie
          have hlk : Cond.methodLink (xR M.1) idx objectInit ∈ xTs := by
            rcases hTC2 with ⟨z, -⟩ | ⟨z, -⟩ | ⟨z, -⟩ | ⟨z, -⟩ | ⟨-, z⟩ | ⟨z, -⟩ | ⟨z, -⟩ | ⟨z, -⟩ <;> first | exact z | cases z
          split at h
          · rename_i q r
            cases hq : (Nat.ble q 899 && Nat.ble (xcat r) 8) with
            | false => rw [hq] at h; cases h
            | true =>
              rw [hq, cond_true] at h
              simp only [Bool.and_eq_true] at hq
              have h8 := Nat.le_of_ble_eq_true hq.2
              rw [List.map_cons, xcv_small (Nat.le_of_ble_eq_true hq.1)]
              refine W.objInit hx hb hown (hts _ hlk) (hts _ tW4) (hts _ tW5) rfl (by rw [hnl]) rfl hd hR1 ?_ (xJ_go h hpc k H locs cells slots ls hw hS hl ha hz)
              rw [xcat_cv hf]
              show 2 * 0 + _ + 12 ≤ _
              omega
          · cases h
        | false =>
          rw [h4, cond_false] at h
          have hn4 : kind ≠ 4 := fun z => by rw [z] at h4; cases h4
          cases h5 : Nat.beq kind 5 with
          | true =>
            rw [h5, cond_true] at h
            have hk5 := Nat.eq_of_beq_eq_true h5
            subst hk5
            have hie := hi.2 (by decide) (by decide)
            subst hie
            have hlk : Cond.methodLink (xR M.1) idx Lib.Math.max.name ∈ xTs := by
              rcases hTC2 with ⟨z, -⟩ | ⟨z, -⟩ | ⟨z, -⟩ | ⟨z, -⟩ | ⟨z, -⟩ | ⟨-, z⟩ | ⟨z, -⟩ | ⟨z, -⟩ <;> first | exact z | cases z
            split at h
            · rename_i y x r
              cases hq : Nat.ble (xcat r) 8 with
              | false => rw [hq] at h; cases h
              | true =>
                rw [hq, cond_true] at h
                have h8 := Nat.le_of_ble_eq_true hq
                refine va_mmax hx hb hnl hown (hts _ hlk) (hts _ tW7) (hts _ tW6) (hts _ tW8) hR1 (by rw [xcat_cv hf]; omega) (hcr h).1 (hcr h).2 hd (xJ_go h hpc k H locs cells slots ls hw hS hl ha hz)
            · cases h
          | false =>
            rw [h5, cond_false] at h
            cases h6 : Nat.beq kind 6 with
            | true =>
              rw [h6, cond_true] at h
              have hk6 := Nat.eq_of_beq_eq_true h6
              subst hk6
              have hie := hi.2 (by decide) (by decide)
              subst hie
              have hlk : Cond.methodLink (xR M.1) idx Lib.Math.min.name ∈ xTs := by
                rcases hTC2 with ⟨z, -⟩ | ⟨z, -⟩ | ⟨z, -⟩ | ⟨z, -⟩ | ⟨z, -⟩ | ⟨z, -⟩ | ⟨-, z⟩ | ⟨z, -⟩ <;> first | exact z | cases z
              split at h
              · rename_i y x r
                cases hq : Nat.ble (xcat r) 8 with
                | false => rw [hq] at h; cases h
                | true =>
                  rw [hq, cond_true] at h
                  have h8 := Nat.le_of_ble_eq_true hq
                  refine va_mmin hx hb hnl hown (hts _ hlk) (hts _ tW9) (hts _ tW6) (hts _ tW10) hR1 (by rw [xcat_cv hf]; omega) (hcr h).1 (hcr h).2 hd (xJ_go h hpc k H locs cells slots ls hw hS hl ha hz)
              · cases h
            | false =>
              rw [h6, cond_false] at h
              cases h7 : Nat.beq kind 7 with
              | true =>
                rw [h7, cond_true] at h
                have hk7 := Nat.eq_of_beq_eq_true h7
                subst hk7
                have hie := hi.2 (by decide) (by decide)
                subst hie
                have hlk : Cond.methodLink (xR M.1) idx Lib.MathLoose.max_long.x ∈ xTs := by
                  rcases hTC2 with ⟨z, -⟩ | ⟨z, -⟩ | ⟨z, -⟩ | ⟨z, -⟩ | ⟨z, -⟩ | ⟨z, -⟩ | ⟨z, -⟩ | ⟨-, z⟩ <;> first | exact z | cases z
                split at h
                · rename_i y x r
                  cases hq : Nat.ble (xcat r) 8 with
                  | false => rw [hq] at h; cases h
                  | true =>
                    rw [hq, cond_true] at h
                    have h8 := Nat.le_of_ble_eq_true hq
                    refine va_mmax_long hx hb hnl hown (hts _ hlk) (hts _ tW11) (hts _ tW6) (hts _ tW12) hR1 (by rw [xcat_cv hf]; omega) (hcr h).1 (hcr h).2 hd (xJ_go h hpc k H locs cells slots ls hw hS hl ha hz)
                · cases h
              | false =>
                rw [h7, cond_false] at h
                exfalso
                have aux : ∀ (b1 b2 : Bool) (z : Nat × List Value × xC), ((bif b1 then (bif b2 then some (Sum.inr (Sum.inl z)) else none) else none) : Option xAc) = some (.inr (.inr c')) → False := by
                  intro b1 b2 z h
                  cases b1
                  · cases h
                  · cases b2
                    · cases h
                    · simp at h
                exact aux _ _ _ h
  · cases h
end S8
end
section
/-! SOUNDNESS 9: a run only makes cells; every simple step; the end of a method -/
def xmon (sh : xS) : xAc → Prop
  | .inl (_, sh', _, _) => sh.length ≤ sh'.length ∧ xsl sh ≤ xsl sh'
  | .inr (.inl (_, _, _, _, _, sh', _, _)) => sh' = sh
  | .inr (.inr (_, _, _, sh', _, _)) => sh.length ≤ sh'.length ∧ xsl sh ≤ xsl sh'
section S9a
variable {X : xX} {M : xT} {σ : xM} {pc : Nat} {lv : xL} {st : List Value} {sh : xS} {o : xO} {lg : Int64} {a : xAc}
theorem xgt_mon {lv' : xL} {st' : List Value} {sh' : xS} {o' : xO} {lg' : Int64} (h : xgt M pc lv' st' sh' o' lg' = some a) (h1 : sh.length ≤ sh'.length ∧ xsl sh ≤ xsl sh') : xmon sh a := by
  unfold xgt at h
  simp only [Option.some.injEq] at h
  subst h
  exact h1
theorem xgt_mo {lv' : xL} {st' : List Value} {o' : xO} {lg' : Int64} (h : xgt M pc lv' st' sh o' lg' = some a) : xmon sh a := xgt_mon h ⟨Nat.le_refl _, Nat.le_refl _⟩
theorem xgetf_inv {idx : Nat} (h : xgetf XP M σ idx pc lv sh o lg st = some a) : ∃ st', xgt M pc lv st' sh o lg = some a := by
  unfold xgetf at h
  split at h
  · split at h
    · rename_i q r
      cases hq : Nat.ble q 899 with
      | false => rw [hq] at h; cases h
      | true =>
        rw [hq, cond_true] at h
        split at h
        · rename_i ci k _ _ _ _ _ ci' tags hxa
          cases hcb : Nat.beq ci' ci with
          | false => rw [hcb] at h; cases h
          | true =>
            rw [hcb, cond_true] at h
            split at h
            · exact ⟨_, h⟩
            · cases hlg : Nat.beq (100 * q + k + 1) XP.2.2.2.2.2.2.2.2 with
              | false => rw [hlg] at h; cases h
              | true => rw [hlg, cond_true] at h; exact ⟨_, h⟩
            · cases h
            · rename_i t _
              cases ht9 : Nat.ble t 899 with
              | false => rw [ht9] at h; cases h
              | true => rw [ht9, cond_true] at h; exact ⟨_, h⟩
            · cases h
        · cases h
    · rename_i ci k _ _ _ _ w r
      cases hcb : Nat.beq ci 100 with
      | false => rw [hcb] at h; cases h
      | true =>
        rw [hcb, cond_true] at h
        cases hk : Nat.beq k 0 with
        | false => rw [hk, cond_false] at h; exact ⟨_, h⟩
        | true => rw [hk, cond_true] at h; exact ⟨_, h⟩
    · cases h
  · cases h
theorem xcallA_mon {kd idx : Nat} (h : xcallA XP M σ kd idx pc lv sh o lg st = some a) : xmon sh a := by
  unfold xcallA at h
  split at h
  · rename_i kind k' n rcv hfd
    cases h0 : Nat.beq kind kd with
    | false => rw [h0] at h; cases h
    | true =>
      rw [h0, cond_true] at h
      cases h3 : Nat.beq kd 3 with
      | true =>
        rw [h3, cond_true] at h
        split at h
        · rename_i n dp q1 sp q0 r
          cases hq : (Nat.ble q0 899 && (Nat.ble q1 899 && Nat.ble (xcat r) 8)) with
          | false => rw [hq] at h; cases h
          | true =>
            rw [hq, cond_true] at h
            split at h
            · exact xgt_mo (x_ite h).2
            · cases h
        · cases h
      | false =>
        rw [h3, cond_false] at h
        cases h4 : Nat.beq kd 4 with
        | true =>
          rw [h4, cond_true] at h
          split at h
          · rename_i q r
            cases hq : (Nat.ble q 899 && Nat.ble (xcat r) 8) with
            | false => rw [hq] at h; cases h
            | true => rw [hq, cond_true] at h; exact xgt_mo h
          · cases h
        | false =>
          rw [h4, cond_false] at h
          cases h5 : Nat.beq kd 5 with
          | true =>
            rw [h5, cond_true] at h
            split at h
            · rename_i y x r
              cases hq : Nat.ble (xcat r) 8 with
              | false => rw [hq] at h; cases h
              | true => rw [hq, cond_true] at h; exact xgt_mo h
            · cases h
          | false =>
            rw [h5, cond_false] at h
            cases h6 : Nat.beq kd 6 with
            | true =>
              rw [h6, cond_true] at h
              split at h
              · rename_i y x r
                cases hq : Nat.ble (xcat r) 8 with
                | false => rw [hq] at h; cases h
                | true => rw [hq, cond_true] at h; exact xgt_mo h
              · cases h
            | false =>
              rw [h6, cond_false] at h
              cases h7 : Nat.beq kd 7 with
              | true =>
                rw [h7, cond_true] at h
                split at h
                · rename_i y x r
                  cases hq : Nat.ble (xcat r) 8 with
                  | false => rw [hq] at h; cases h
                  | true => rw [hq, cond_true] at h; exact xgt_mo h
                · cases h
              | false =>
                rw [h7, cond_false] at h
                have aux : ∀ (b1 b2 : Bool) (z : Nat × List Value × xC), ((bif b1 then (bif b2 then some (Sum.inr (Sum.inl z)) else none) else none) : Option xAc) = some a → a = .inr (.inl z) := by
                  intro b1 b2 z h
                  cases b1
                  · cases h
                  · cases b2
                    · cases h
                    · simp only [cond_true, Option.some.injEq] at h
                      exact h.symm
                have e := aux _ _ _ h
                subst e
                rfl
  · cases h
theorem xexec_mon {i : Instr} {tgt : Nat} {cv : Int32} {cs : List (Int32 × Nat)} (g : xG) (h : xexec XP M X σ i tgt cv cs pc lv st sh o lg = some a) : xmon sh a := by
  cases i with
  | aload j => obtain ⟨v, -, hg, -⟩ := xld_inv g h; exact xgt_mo hg
  | aload_n j => obtain ⟨v, -, hg, -⟩ := xld_inv g h; exact xgt_mo hg
  | iload j => obtain ⟨v, -, hg, -⟩ := xld_inv g h; exact xgt_mo hg
  | iload_n j => obtain ⟨v, -, hg, -⟩ := xld_inv g h; exact xgt_mo hg
  | lload j => obtain ⟨v, -, hg, -⟩ := xld_inv g h; exact xgt_mo hg
  | lload_n j => obtain ⟨v, -, hg, -⟩ := xld_inv g h; exact xgt_mo hg
  | astore j => rcases xst_inv h with ⟨-, _, _, -, hg⟩ | ⟨-, _, _, -, hg⟩ | ⟨-, _, _, -, hg⟩ <;> exact xgt_mo hg
  | astore_n j => rcases xst_inv h with ⟨-, _, _, -, hg⟩ | ⟨-, _, _, -, hg⟩ | ⟨-, _, _, -, hg⟩ <;> exact xgt_mo hg
  | istore j => rcases xst_inv h with ⟨-, _, _, -, hg⟩ | ⟨-, _, _, -, hg⟩ | ⟨-, _, _, -, hg⟩ <;> exact xgt_mo hg
  | istore_n j => rcases xst_inv h with ⟨-, _, _, -, hg⟩ | ⟨-, _, _, -, hg⟩ | ⟨-, _, _, -, hg⟩ <;> exact xgt_mo hg
  | lstore j => rcases xst_inv h with ⟨-, _, _, -, hg⟩ | ⟨-, _, _, -, hg⟩ | ⟨-, _, _, -, hg⟩ <;> exact xgt_mo hg
  | lstore_n j => rcases xst_inv h with ⟨-, _, _, -, hg⟩ | ⟨-, _, _, -, hg⟩ | ⟨-, _, _, -, hg⟩ <;> exact xgt_mo hg
  | iconst n => exact xgt_mo h
  | bipush n => exact xgt_mo h
  | sipush n => exact xgt_mo h
  | lconst n => exact xgt_mo h
  | ldc j => simp only [xexec] at h; split at h <;> first | exact xgt_mo h | cases h
  | ldc_w j => simp only [xexec] at h; split at h <;> first | exact xgt_mo h | cases h
  | ldc2_w j => simp only [xexec] at h; split at h <;> first | exact xgt_mo h | cases h
  | iadd => obtain ⟨_, _, _, -, hg⟩ := xin2_inv h; exact xgt_mo hg
  | isub => obtain ⟨_, _, _, -, hg⟩ := xin2_inv h; exact xgt_mo hg
  | imul => obtain ⟨_, _, _, -, hg⟩ := xin2_inv h; exact xgt_mo hg
  | iand => obtain ⟨_, _, _, -, hg⟩ := xin2_inv h; exact xgt_mo hg
  | ior => obtain ⟨_, _, _, -, hg⟩ := xin2_inv h; exact xgt_mo hg
  | ixor => obtain ⟨_, _, _, -, hg⟩ := xin2_inv h; exact xgt_mo hg
  | ishl => obtain ⟨_, _, _, -, hg⟩ := xin2_inv h; exact xgt_mo hg
  | ishr => obtain ⟨_, _, _, -, hg⟩ := xin2_inv h; exact xgt_mo hg
  | iushr => obtain ⟨_, _, _, -, hg⟩ := xin2_inv h; exact xgt_mo hg
  | idiv => obtain ⟨_, _, _, -, -, hg⟩ := xind_inv h; exact xgt_mo hg
  | irem => obtain ⟨_, _, _, -, -, hg⟩ := xind_inv h; exact xgt_mo hg
  | ineg => obtain ⟨_, _, -, hg⟩ := xin1_inv h; exact xgt_mo hg
  | i2b => obtain ⟨_, _, -, hg⟩ := xin1_inv h; exact xgt_mo hg
  | i2s => obtain ⟨_, _, -, hg⟩ := xin1_inv h; exact xgt_mo hg
  | i2c => obtain ⟨_, _, -, hg⟩ := xin1_inv h; exact xgt_mo hg
  | i2l => simp only [xexec] at h; split at h <;> first | exact xgt_mo h | cases h
  | l2i => simp only [xexec] at h; split at h <;> first | exact xgt_mo h | cases h
  | ladd => obtain ⟨_, _, _, -, hg⟩ := xln2_inv h; exact xgt_mo hg
  | lsub => obtain ⟨_, _, _, -, hg⟩ := xln2_inv h; exact xgt_mo hg
  | lmul => obtain ⟨_, _, _, -, hg⟩ := xln2_inv h; exact xgt_mo hg
  | ldiv => obtain ⟨_, _, _, -, -, hg⟩ := xlnd_inv h; exact xgt_mo hg
  | lrem => obtain ⟨_, _, _, -, -, hg⟩ := xlnd_inv h; exact xgt_mo hg
  | lcmp => simp only [xexec] at h; split at h <;> first | exact xgt_mo h | cases h
  | iinc j n => simp only [xexec] at h; split at h <;> first | exact xgt_mo h | cases h
  | pop =>
    simp only [xexec] at h
    split at h
    · rename_i v r
      cases hc1 : Nat.beq v.category 1 with
      | false => rw [hc1] at h; cases h
      | true => rw [hc1] at h; exact xgt_mo h
    · cases h
  | dup =>
    simp only [xexec] at h
    split at h
    · rename_i v r
      cases hc1 : Nat.beq v.category 1 with
      | false => rw [hc1] at h; cases h
      | true => rw [hc1] at h; exact xgt_mo h
    · cases h
  | dup2 =>
    simp only [xexec] at h
    split at h
    · rename_i v w r
      cases hc1 : (Nat.beq v.category 1 && Nat.beq w.category 1) with
      | false => rw [hc1] at h; cases h
      | true => rw [hc1] at h; exact xgt_mo h
    · cases h
  | goto off => exact xgt_mo h
  | ifCond cd off =>
    simp only [xexec] at h
    split at h
    · simp only [Option.some.injEq] at h; subst h; exact ⟨Nat.le_refl _, Nat.le_refl _⟩
    · cases h
  | if_icmp cd off =>
    simp only [xexec] at h
    split at h
    · simp only [Option.some.injEq] at h; subst h; exact ⟨Nat.le_refl _, Nat.le_refl _⟩
    · cases h
  | tableswitch _ _ _ _ =>
    simp only [xexec] at h
    split at h
    · simp only [Option.some.injEq] at h; subst h; exact ⟨Nat.le_refl _, Nat.le_refl _⟩
    · cases h
  | getfield j => obtain ⟨_, hg⟩ := xgetf_inv h; exact xgt_mo hg
  | putfield j =>
    obtain ⟨ci, k, ty, fin, v, q, r, tags, -, -, -, -, hxa, hcase⟩ := xputf_inv (σ := σ) h
    rcases hcase with ⟨x, -, -, -, hg⟩ | ⟨x, -, -, -, -, hg⟩ | ⟨t, -, -, -, -, hg⟩
    · exact xgt_mo hg
    · exact xgt_mo hg
    · exact xgt_mon hg ⟨by rw [List.length_set]; exact Nat.le_refl _, by rw [xsl_set hxa (by simp [xsz])]; exact Nat.le_refl _⟩
  | getstatic j => simp only [xexec] at h; split at h <;> first | exact xgt_mo h | cases h
  | iaload => obtain ⟨_, _, _, _, _, -, -, -, hg⟩ := xaload_inv h; exact xgt_mo hg
  | caload => obtain ⟨_, _, _, _, _, -, -, -, hg⟩ := xaload_inv h; exact xgt_mo hg
  | baload => obtain ⟨_, _, _, _, _, -, -, -, hg⟩ := xaload_inv h; exact xgt_mo hg
  | iastore => obtain ⟨_, _, _, _, _, _, -, -, -, -, -, hg⟩ := xastore_inv h; exact xgt_mo hg
  | castore => obtain ⟨_, _, _, _, _, _, -, -, -, -, -, hg⟩ := xastore_inv h; exact xgt_mo hg
  | arraylength =>
    simp only [xexec] at h
    split at h
    · split at h
      · exact xgt_mo h
      · cases h
    · cases h
  | newarray aty =>
    simp only [xexec] at h
    split at h
    · exact xgt_mon (x_ite h).2 ⟨by rw [List.length_append]; omega, by rw [xsl_app]; omega⟩
    · exact xgt_mon (x_ite h).2 ⟨by rw [List.length_append]; omega, by rw [xsl_app]; omega⟩
    · cases h
  | new j =>
    simp only [xexec] at h
    split at h
    · rename_i ci tags hfd
      cases hcnd : (Nat.ble sh.length 899 && (!(xmem tags 1) || Nat.ble (100 * sh.length) XP.2.2.2.2.2.2.2.2)) with
      | false => rw [hcnd] at h; cases h
      | true => rw [hcnd, cond_true] at h; exact xgt_mon h ⟨by rw [List.length_append]; omega, by rw [xsl_app]; omega⟩
    · cases h
  | invokestatic j =>
    simp only [xexec] at h
    split at h
    · rename_i kind _ _ _ _
      cases hk : (Nat.beq kind 4 || (Nat.beq kind 1 || Nat.beq kind 2)) with
      | true => rw [hk] at h; cases h
      | false => rw [hk, cond_false] at h; exact xcallA_mon h
    · cases h
  | invokevirtual j => exact xcallA_mon h
  | invokespecial j =>
    simp only [xexec] at h
    split at h
    · rename_i kind _ _ _ _
      cases hk : (Nat.beq kind 4 || Nat.beq kind 2) with
      | false => rw [hk] at h; cases h
      | true => rw [hk, cond_true] at h; exact xcallA_mon h
    · cases h
  | return_ =>
    simp only [xexec, xret] at h
    split at h
    · simp only [Option.some.injEq] at h; subst h; exact ⟨Nat.le_refl _, Nat.le_refl _⟩
    · cases h
  | ireturn =>
    simp only [xexec, xret] at h
    split at h
    · simp only [Option.some.injEq] at h; subst h; exact ⟨Nat.le_refl _, Nat.le_refl _⟩
    · have h := (x_ite h).2; simp only [Option.some.injEq] at h; subst h; exact ⟨Nat.le_refl _, Nat.le_refl _⟩
    · have h := (x_ite h).2; simp only [Option.some.injEq] at h; subst h; exact ⟨Nat.le_refl _, Nat.le_refl _⟩
    · have h := (x_ite h).2; simp only [Option.some.injEq] at h; subst h; exact ⟨Nat.le_refl _, Nat.le_refl _⟩
    · cases h
  | lreturn =>
    simp only [xexec, xret] at h
    split at h
    · simp only [Option.some.injEq] at h; subst h; exact ⟨Nat.le_refl _, Nat.le_refl _⟩
    · cases h
  | areturn =>
    simp only [xexec, xret] at h
    split at h
    · simp only [Option.some.injEq] at h; subst h; exact ⟨Nat.le_refl _, Nat.le_refl _⟩
    · cases h
  | _ => cases h
theorem xact_mon {c : xC} (g : xG) (h : xact XP M X σ c = some a) : xmon c.2.2.2.1 a := by
  obtain ⟨pc, lv, st, sh, o, lg⟩ := c
  unfold xact at h
  cases hl : Nat.ble 100000 pc with
  | true =>
    simp only [hl, cond_true] at h
    split at h
    · simp only [Option.some.injEq] at h; subst h; exact ⟨Nat.le_refl _, Nat.le_refl _⟩
    · cases h
  | false =>
    simp only [hl, cond_false] at h
    split at h
    · split at h
      · exact xexec_mon g h
      · cases h
    · cases h
end S9a
theorem xgo_mon {orc : xOrc} {M : xT} {X : xX} {σ : xM} (g : xG) (ho : ∀ k as sh lg σ r sh' ol' lg', orc k as sh lg σ = some (r, sh', ol', lg') → sh.length ≤ sh'.length ∧ xsl sh ≤ xsl sh') : ∀ (n : Nat) (c : xC) (r : Option Value) (sh' : xS) (ol' : xO) (lg' : Int64), xgo XP orc M X σ n c = some (r, sh', ol', lg') → c.2.2.2.1.length ≤ sh'.length ∧ xsl c.2.2.2.1 ≤ xsl sh' := by
  intro n
  induction n with
  | zero => intro c r sh' ol' lg' h; cases h
  | succ n ih =>
    intro c r sh' ol' lg' h
    rw [xgo] at h
    split at h
    · cases h
    · rename_i o ha
      have hm := xact_mon g ha
      cases h
      exact hm
    · rename_i ha
      have hm := xact_mon g ha
      split at h
      · cases h
      · rename_i ho1
        have h1 := ho _ _ _ _ _ _ _ _ _ ho1
        have h2 := ih _ _ _ _ _ h
        dsimp only [xmon] at hm
        dsimp only at h2
        rw [← hm]
        omega
    · rename_i c1 ha
      have hm := xact_mon g ha
      have h2 := ih _ _ _ _ _ h
      obtain ⟨a1, a2, a3, a4, a5, a6⟩ := c1
      dsimp only [xmon] at hm
      dsimp only at h2
      omega
theorem xcall_mon (g : xG) {X : xX} : ∀ (d N k : Nat) (as : List Value) (sh : xS) (lg : Int64) (σ : xM) (r : Option Value) (sh' : xS) (ol' : xO) (lg' : Int64), xcall XP X d N k as sh lg σ = some (r, sh', ol', lg') → sh.length ≤ sh'.length ∧ xsl sh ≤ xsl sh' := by
  intro d
  induction d with
  | zero => intro N k as sh lg σ r sh' ol' lg' h; cases h
  | succ d ih =>
    intro N k as sh lg σ r sh' ol' lg' h
    simp only [xcall] at h
    split at h
    · cases h
    · rename_i M hM
      cases hb : Nat.ble (xcat as) M.2.2.2.2.2 with
      | false => rw [hb] at h; cases h
      | true =>
        rw [hb, cond_true] at h
        exact xgo_mon g (fun k as sh lg σ r sh' ol' lg' h => ih N k as sh lg σ r sh' ol' lg' h) N _ r sh' ol' lg' h
end
section
/-! SOUNDNESS 10: a step, a call, a run, a method -/
section S10
variable {p : Program} {l : Launch} {e : Env} {R : Room} {s : State} {m : MethodId} {args : Array Value} {below : List Frame} {meth : Method} {c : Code} {Q : State → Prop} {g : xG} {X : xX} {cc : ByteArray} {nL n0 m0 : Nat} {M : xT} {σ : xM}
theorem xact_sound (Y : xYt) (hT : xTab Y) (hF : xFrm g X p s m args meth c R cc nL M) {c0 c' : xC} (hroom : c'.2.2.2.1.length ≤ n0 + R.cells ∧ xsl c'.2.2.2.1 ≤ m0 + R.slots) (h : xact XP M X σ c0 = some (.inr (.inr c'))) (k : xJ p l e R s m args below meth c Q g nL n0 m0 σ c') : xJ p l e R s m args below meth c Q g nL n0 m0 σ c0 := by
  obtain ⟨pc, lv, st, sh, o, lg⟩ := c0
  unfold xact at h
  have hok := hF.2.2.2.2.2.2.2.2.2.1
  cases hl : Nat.ble 100000 pc with
  | true =>
    simp only [hl, cond_true] at h
    split at h
    · rename_i ks cs rs hx
      simp only [Option.some.injEq, Sum.inr.injEq] at h
      subst h
      have hle := Nat.le_of_ble_eq_true hl
      have hlt := hok.2 _ (xfind_mem hx)
      dsimp only at hlt
      intro H locs cells slots ls a1 a2 a3 a4 a5
      have e1 : xEq (xget o σ) (xget (xadd σ cs (xaddr σ lv rs o)) σ) := by
        have h1 := (xadd_eq σ cs (xaddr σ lv rs o)).tr (xaddr_eq σ lv rs o)
        exact ⟨fun c hc => (h1.1 c hc).symm, fun c => (h1.2 c).symm⟩
      have h2 := k H locs cells slots ls (xWd_eq e1 a1) a2 (lv_less a3 (fun q hq => by
        obtain ⟨r, hr, rfl⟩ := List.mem_map.mp hq
        exact List.mem_map.mpr ⟨r, xkeep_sub _ _ r hr, rfl⟩)) a4 a5
      rw [xrp_lt hlt] at h2
      unfold xrp
      rw [if_pos hle]
      exact h2
    · cases h
  | false =>
    simp only [hl, cond_false] at h
    have hlt : pc < 100000 := by
      rcases Nat.lt_or_ge pc 100000 with z | z
      · exact z
      · rw [Nat.ble_eq_true_of_le z] at hl; cases hl
    split at h
    · rename_i ch hch
      split at h
      · rename_i i ln tgt cv cs hrow
        have hr : xenok cc nL (pc, i, ln, tgt, cv, cs) = true := hok.1 ch (by rw [xnth_get] at hch; exact List.mem_of_getElem? hch) _ (xfind_mem hrow)
        suffices hh : xAtW p l e R s m args below meth c Q g nL n0 m0 σ pc lv st sh o lg by
          intro H locs cells slots ls a1 a2 a3 a4 a5
          rw [xrp_lt hlt]
          exact hh H locs cells slots ls a1 a2 a3 a4 a5
        obtain ⟨-, hd, hpc, -, -, -, h2⟩ := xex_dec hr
        dsimp only at hd hpc h2
        cases i with
        | putfield j => exact xexec_put Y hT hF hr h k
        | new j => exact xexec_new Y hT hF hr hroom h k
        | newarray a => exact xexec_newa Y hT hF hr hroom h k
        | invokestatic j =>
          have hln : ln = 3 := Nat.eq_of_beq_eq_true h2
          subst hln
          simp only [xexec] at h
          split at h
          · rename_i kind _ _ _ _
            cases hk : (Nat.beq kind 4 || (Nat.beq kind 1 || Nat.beq kind 2)) with
            | true => rw [hk] at h; cases h
            | false =>
              rw [hk, cond_false] at h
              simp only [Bool.or_eq_false_iff] at hk
              exact xcall_simple Y hT hF hroom hd ⟨fun z => by rw [z] at hk; exact absurd hk.1 (by decide), fun _ _ => rfl⟩ hpc h k
          · cases h
        | invokevirtual j =>
          have hln : ln = 3 := Nat.eq_of_beq_eq_true h2
          subst hln
          exact xcall_simple Y hT hF hroom hd ⟨fun z => absurd z (by decide), fun _ z => absurd z (by decide)⟩ hpc h k
        | invokespecial j =>
          have hln : ln = 3 := Nat.eq_of_beq_eq_true h2
          subst hln
          simp only [xexec] at h
          split at h
          · rename_i kind _ _ _ _
            cases hk : (Nat.beq kind 4 || Nat.beq kind 2) with
            | false => rw [hk] at h; cases h
            | true =>
              rw [hk, cond_true] at h
              refine xcall_simple Y hT hF hroom hd ⟨fun _ => rfl, fun z1 z2 => ?_⟩ hpc h k
              exfalso
              simp only [Bool.or_eq_true] at hk
              rcases hk with hk | hk
              · exact z1 (Nat.eq_of_beq_eq_true hk)
              · have := Nat.eq_of_beq_eq_true hk
                omega
          · cases h
        | return_ => simp only [xexec, xret] at h; split at h <;> simp at h
        | ireturn =>
          simp only [xexec, xret] at h
          split at h
          · simp at h
          · have h := (x_ite h).2; simp at h
          · have h := (x_ite h).2; simp at h
          · have h := (x_ite h).2; simp at h
          · simp at h
        | lreturn => simp only [xexec, xret] at h; split at h <;> simp at h
        | areturn => simp only [xexec, xret] at h; split at h <;> simp at h
        | _ => first
          | exact xexec_pure Y hT hF hr trivial h k
          | exact xexec_mid Y hT hF hr trivial h k
          | exact xexec_heap Y hT hF hr trivial h k
          | (cases h)
      · cases h
    · cases h
/-- a method's room: by its depth, and by what it makes -/
def xrm (d mc ms : Nat) : Room := { frames := d, cells := mc, slots := ms, locals := 40 * d }
def xPre (g : xG) (X : xX) (sh : xS) (σ : xM) (lg : Int64) : State → Prop := fun U => xWd g sh σ lg U.heap ∧ xKK g U ∧ xST g X U U.heap
def xPost (g : xG) (r : Option Value) (sh : xS) (σ : xM) (lg : Int64) : Array Value → State → Outcome → State → Prop := fun _ st oc t => (oc = .returned (r.map (xcv g)) ∧ xWd g sh σ lg t.heap) ∧ va_F (g_A g) st t
/-- the methods' contracts, to a depth -/
def MOK (l : Launch) (g : xG) (X : xX) (Y : xYt) (d : Nat) : Prop := ∀ (k : Nat) (as : List Value) (sh : xS) (lg : Int64) (σ : xM) (r : Option Value) (sh' : xS) (ol' : xO) (lg' : Int64) (N : Nat), xcall XP X d N k as sh lg σ = some (r, sh', ol', lg') → ∀ (y : MethodName) (cc : ByteArray) (mL : Nat) (M : xT), xnth Y k = some (y, cc, mL) → xnth xMT k = some M → k + 1 ≠ xMT.length →
  Met l y (Cond.code y cc mL M.2.2.2.1 :: xTs) (xrm d (sh'.length - sh.length) (xsl sh' - xsl sh)) (va_Pc (as.map (xcv g)) (xPre g X sh σ lg)) (xPost g r sh' (xget ol' σ) lg') (sh'.length - sh.length) (xsl sh' - xsl sh) (g_A g)
theorem xPre_blind {sh : xS} {lg : Int64} {as : List Value} : FrameBlind (va_Pc as (xPre g X sh σ lg)) := by
  intro a U gg mk ⟨h1, h2, h3, h4⟩
  refine ⟨h1, h2, va_K.moved (u := U) (Vm.Alike.refl U.vm) h3, ?_⟩
  obtain ⟨⟨a1, a2⟩, ⟨b1, b2⟩, ⟨c1, c2, c3⟩, ⟨d1, d2⟩, ⟨e1, e2⟩, f1, f2, f3⟩ := h4
  have hv : U.vm.Alike (U.calling gg mk a).vm := Vm.Alike.refl U.vm
  refine ⟨⟨a1.moved hv, a2.moved hv⟩, ⟨b1.moved hv, b2.moved hv⟩, ⟨c1.moved hv, c2.moved hv, c3⟩, ⟨d1.moved hv, fun i hi => (d2 i hi).same rfl⟩, ⟨fun w hw => ?_, va_Nw.same rfl rfl e2⟩, f1.moved hv, f2, f3⟩
  have h1 := e1 w hw
  simp only [xNWm, List.mem_cons, List.not_mem_nil, or_false] at hw
  rcases hw with rfl | rfl | rfl | rfl | rfl | rfl | rfl <;> exact va_Nw.same rfl rfl h1
theorem xTs_good {y : MethodName} {cc : ByteArray} {mL : Nat} {ret : Option FieldType} (h : Cond.code y cc mL ret ∈ xTs) : GoodIn xTs (Cond.code y cc mL ret :: xTs) := by
  intro w hw
  have hm : w ∈ xTs := by
    rcases List.mem_cons.mp hw with rfl | hw
    · exact h
    · exact hw
  exact ⟨hm, good_of_word (List.mem_filter.mp hm).2⟩
theorem xTs_goods {ws : List Cond} (h : ∀ w ∈ ws, w ∈ xTs) : GoodIn xTs ws := fun w hw => ⟨h w hw, good_of_word (List.mem_filter.mp (h w hw)).2⟩
/-- behind a call -/
theorem x_callk {pc : Nat} {ls : Array Slot} {rest st0 : List Value} {a : Array Value} {H : Heap} {locs : List Loc} {cells slots mc ms : Nat} {r : Option Value} {sh' : xS} {σ' : xM} {lg' : Int64} (hr : va_Run p l e R s m args below meth c H locs cells slots mc ms (F0 m pc ls st0) rest (xPost g r sh' σ' lg' a) (g_A g)) (hS : va_S (g_A g) s.heap H locs)
    (kk : ∀ (H1 : Heap) (locs1 : List Loc), xWd g sh' σ' lg' H1 → va_S (g_A g) s.heap H1 locs1 → W p l e R s m args below meth c H1 locs1 (cells + mc) (slots + ms) Q (F0 m (pc + 3) ls ((r.map (xcv g)).toList ++ rest))) : W p l e R s m args below meth c H locs cells slots Q (F0 m pc ls st0) := by
  intro T hT X
  obtain ⟨v, st₀, t, T', L, h0, X', hL, e1, e2, ⟨⟨hv, hb⟩, hz, hk⟩, st⟩ := hr T hT X
  cases hv
  rw [h0] at hz hk
  obtain ⟨t2, a1, b1⟩ := kk T'.heap (locs ++ L) (by rw [e1]; exact hb)
    ⟨Nat.le_trans hS.1 (by rw [e1]; exact hz), fun q h1 h2 => by rw [e1, hk q (Nat.lt_of_lt_of_le h1 hS.1) h2]; exact hS.2.1 q h1 h2, fun q hq => by
      rcases List.mem_append.mp hq with h | h
      · exact hS.2.2 q h
      · exact hL q h⟩ T' rfl X'
  exact ⟨t2, st t2 a1, b1⟩
def xrcv (sh : xS) (rcv : Nat) (v : Option Value) : Prop := rcv = 0 ∨ (∃ q c tags, v = some (.ref q) ∧ rcv = c + 1 ∧ q ≤ 899 ∧ xnth sh q = some (.inl (c, tags))) ∨ (∃ w, v = some (.retAddr w) ∧ rcv = 101)
theorem xcallA_inv {kd idx pc : Nat} {lv : xL} {st : List Value} {sh : xS} {o : xO} {lg : Int64} {k : Nat} {as : List Value} {c1 : xC} (h : xcallA XP M σ kd idx pc lv sh o lg st = some (.inr (.inl (k, as, c1)))) :
    ∃ n rcv, xfind (xCT.getD M.1 []) idx = some (kd, k, n, rcv) ∧ n ≤ st.length ∧ xcat (st.drop n) ≤ 8 ∧ as = (st.take n).reverse ∧ c1 = (xnx M pc, lv, st.drop n, sh, o, lg) ∧ xrcv sh rcv (st.drop (n - 1)).head? ∧ ¬ (3 ≤ kd ∧ kd ≤ 7) := by
  have hgt : ∀ {lv' : xL} {st' : List Value} {sh' : xS} {o' : xO} {lg' : Int64}, xgt M pc lv' st' sh' o' lg' = some (.inr (.inl (k, as, c1))) → False := by
    intro lv' st' sh' o' lg' hg
    unfold xgt at hg
    simp at hg
  unfold xcallA at h
  split at h
  · rename_i kind k' n rcv hfd
    cases h0 : Nat.beq kind kd with
    | false => rw [h0] at h; cases h
    | true =>
      have := Nat.eq_of_beq_eq_true h0
      subst this
      rw [h0, cond_true] at h
      cases h3 : Nat.beq kind 3 with
      | true =>
        exfalso
        rw [h3, cond_true] at h
        split at h
        · rename_i n dp q1 sp q0 r
          cases hq : (Nat.ble q0 899 && (Nat.ble q1 899 && Nat.ble (xcat r) 8)) with
          | false => rw [hq] at h; cases h
          | true =>
            rw [hq, cond_true] at h
            split at h
            · exact hgt (x_ite h).2
            · cases h
        · cases h
      | false =>
      rw [h3, cond_false] at h
      cases h4 : Nat.beq kind 4 with
      | true =>
        exfalso
        rw [h4, cond_true] at h
        split at h
        · rename_i q r
          cases hq : (Nat.ble q 899 && Nat.ble (xcat r) 8) with
          | false => rw [hq] at h; cases h
          | true => rw [hq, cond_true] at h; exact hgt h
        · cases h
      | false =>
      rw [h4, cond_false] at h
      cases h5 : Nat.beq kind 5 with
      | true =>
        exfalso
        rw [h5, cond_true] at h
        split at h
        · rename_i y x r
          cases hq : Nat.ble (xcat r) 8 with
          | false => rw [hq] at h; cases h
          | true => rw [hq, cond_true] at h; exact hgt h
        · cases h
      | false =>
      rw [h5, cond_false] at h
      cases h6 : Nat.beq kind 6 with
      | true =>
        exfalso
        rw [h6, cond_true] at h
        split at h
        · rename_i y x r
          cases hq : Nat.ble (xcat r) 8 with
          | false => rw [hq] at h; cases h
          | true => rw [hq, cond_true] at h; exact hgt h
        · cases h
      | false =>
      rw [h6, cond_false] at h
      cases h7 : Nat.beq kind 7 with
      | true =>
        exfalso
        rw [h7, cond_true] at h
        split at h
        · rename_i y x r
          cases hq : Nat.ble (xcat r) 8 with
          | false => rw [hq] at h; cases h
          | true => rw [hq, cond_true] at h; exact hgt h
        · cases h
      | false =>
      rw [h7, cond_false] at h
      have hne : ¬ (3 ≤ kind ∧ kind ≤ 7) := by
        rintro ⟨z1, z2⟩
        have e3 : kind ≠ 3 := fun z => by rw [z] at h3; cases h3
        have e4 : kind ≠ 4 := fun z => by rw [z] at h4; cases h4
        have e5 : kind ≠ 5 := fun z => by rw [z] at h5; cases h5
        have e6 : kind ≠ 6 := fun z => by rw [z] at h6; cases h6
        have e7 : kind ≠ 7 := fun z => by rw [z] at h7; cases h7
        omega
      cases hA : (Nat.ble n st.length && Nat.ble (xcat (st.drop n)) 8) with
      | false => rw [hA] at h; cases h
      | true =>
        rw [hA, cond_true] at h
        simp only [Bool.and_eq_true] at hA
        have aux : ∀ (b2 : Bool) (z w : Nat × List Value × xC), ((bif b2 then some (Sum.inr (Sum.inl z)) else none) : Option xAc) = some (.inr (.inl w)) → b2 = true ∧ z = w := by
          intro b2 z w h
          cases b2
          · cases h
          · exact ⟨rfl, by simpa using h⟩
        obtain ⟨hb2, hz⟩ := aux _ _ _ h
        cases hz
        refine ⟨n, rcv, hfd, Nat.le_of_ble_eq_true hA.1, Nat.le_of_ble_eq_true hA.2, rfl, rfl, ?_, hne⟩
        split at hb2
        · exact Or.inl rfl
        · rename_i q r c' hdr
          simp only [Bool.and_eq_true] at hb2
          obtain ⟨hb3, hb4⟩ := hb2
          split at hb4
          · rename_i ci' tags hxa
            have := Nat.eq_of_beq_eq_true hb4
            subst this
            exact Or.inr (Or.inl ⟨q, ci', tags, by rw [hdr]; rfl, rfl, Nat.le_of_ble_eq_true hb3, hxa⟩)
          · cases hb4
        · rename_i w r c' hdr
          have := Nat.eq_of_beq_eq_true hb2
          subst this
          exact Or.inr (Or.inr ⟨w, by rw [hdr]; rfl, rfl⟩)
        · cases hb2
  · cases h
theorem xcall_some {d N k : Nat} {as : List Value} {sh : xS} {lg : Int64} {σ : xM} {out : xOut} (h : xcall XP X d N k as sh lg σ = some out) : ∃ M', xnth xMT k = some M' := by
  cases d with
  | zero => cases h
  | succ d =>
    simp only [xcall] at h
    split at h
    · cases h
    · rename_i M' hM
      exact ⟨M', hM⟩
end S10
end
section
/-! SOUNDNESS 11: calls -/
section S11
variable {p : Program} {l : Launch} {e : Env} {R : Room} {s : State} {m : MethodId} {args : Array Value} {below : List Frame} {meth : Method} {c : Code} {Q : State → Prop} {g : xG} {X : xX} {cc : ByteArray} {nL n0 m0 : Nat} {M : xT} {σ : xM}
theorem xcallA_sound (Y : xYt) (hT : xTab Y) (hF : xFrm g X p s m args meth c R cc nL M) {d N : Nat} (hMO : MOK l g X Y d) (hd1 : d + 1 ≤ R.frames) (hd2 : 40 * d + 40 ≤ R.locals) {kd idx pc : Nat} {i : Instr} {lv : xL} {st : List Value} {sh : xS} {o : xO} {lg : Int64} {k : Nat} {as : List Value} {pc' : Nat} {lv' : xL} {st' : List Value} {sh1 : xS} {o' : xO} {lg' : Int64} {r : Option Value} {sh2 : xS} {ol2 : xO} {lg2 : Int64}
    (hdc : decode cc pc = .ok (i, 3)) (hi : (kd = 0 → i = .invokestatic idx) ∧ (kd = 1 → i = .invokevirtual idx) ∧ (kd = 2 → i = .invokespecial idx)) (hpc : pc + 3 < 100000)
    (h : xcallA XP M σ kd idx (pc + 3) lv sh o lg st = some (.inr (.inl (k, as, pc', lv', st', sh1, o', lg')))) (ho : xcall XP X d N k as sh1 lg' (xget o' σ) = some (r, sh2, ol2, lg2)) (hroom : sh2.length ≤ n0 + R.cells ∧ xsl sh2 ≤ m0 + R.slots)
    (kk : xJ p l e R s m args below meth c Q g nL n0 m0 σ (pc', lv', r.toList ++ st', sh2, xmrg o' ol2, lg2)) : xAtW p l e R s m args below meth c Q g nL n0 m0 σ pc lv st sh o lg := by
  obtain ⟨-, -, -, -, -, -, hTC, hTM⟩ := hT
  obtain ⟨hx, hb, hml, hown, hts, hK, hST, hs0, hini, hok, hR1, hR2⟩ := hF
  have hf := hST.2.2.1.2.2
  obtain ⟨n, rcv, hfd, hnl, h8, has, hc1, hrcv, hne⟩ := xcallA_inv h
  cases hc1
  obtain ⟨M', hM'⟩ := xcall_some ho
  have hmono := xcall_mon g d N k as sh lg (xget o σ) r sh2 ol2 lg2 ho
  intro H locs cells slots ls hw hS hl ha hz
  have hS2 : CallFix p m c cc nL s args xTs (xR M.1) := ⟨hx, hb, hml, hown, hts⟩
  have hstk : (as.map (xcv g)).reverse ++ (st.drop n).map (xcv g) = st.map (xcv g) := by
    rw [has, ← List.map_reverse, List.reverse_reverse, ← List.map_append, List.take_append_drop]
  have hW8 : ∀ g0 : List Value, 2 * (F0 m pc ls g0).monitorRoom + (((st.drop n).map (xcv g)).map fun v => v.category).sum ≤ 8 := by
    intro g0
    show 2 * 0 + _ ≤ 8
    rw [xcat_cv hf]
    omega
  have hcs : cells + (sh2.length - sh.length) ≤ R.cells ∧ slots + (xsl sh2 - xsl sh) ≤ R.slots := by omega
  have hpre : ∀ U : State, U.heap = H → s.WarmedH U.vm → xPre g X sh (xget o σ) lg U := fun U hU hWm => ⟨by rw [hU]; exact hw, va_K.moved hWm.alike hK, xST_move hST hs0 hWm (by rw [hU]; exact hS.2.1)⟩
  have fin : ∀ {a : Array Value} {g0 : List Value}, va_Run p l e R s m args below meth c H locs cells slots (sh2.length - sh.length) (xsl sh2 - xsl sh) (F0 m pc ls g0) ((st.drop n).map (xcv g)) (xPost g r sh2 (xget ol2 (xget o σ)) lg2 a) (g_A g) → W p l e R s m args below meth c H locs cells slots Q (F0 m pc ls g0) := by
    intro a g0 hr
    refine x_callk hr hS fun H1 locs1 hw1 hS1 => ?_
    have h9 := kk H1 locs1 (cells + (sh2.length - sh.length)) (slots + (xsl sh2 - xsl sh)) ls (by rw [xget_mrg]; exact hw1) hS1 hl (by omega) (by omega)
    rw [xrp_nx hpc, List.map_append] at h9
    cases r with
    | none => exact h9
    | some v => exact h9
  have hRm : ∀ mL : Nat, mL ≤ 21 → (xrm d (sh2.length - sh.length) (xsl sh2 - xsl sh)).frames + 1 ≤ R.frames ∧ 8 + (mL + 11) + (xrm d (sh2.length - sh.length) (xsl sh2 - xsl sh)).locals ≤ R.locals := fun mL hmL => ⟨hd1, by show 8 + (mL + 11) + 40 * d ≤ R.locals; omega⟩
  have hcode : ∀ {y cc mL}, xnth Y k = some (y, cc, mL) → k + 1 ≠ xMT.length → y.cls = xR M'.1 ∧ Cond.code y cc mL M'.2.2.2.1 ∈ xTs ∧ mL ≤ 21 := by
    intro y cc mL hy hk
    obtain ⟨y2, cc2, mL2, hy2, e1, e2, e3, -, -, -⟩ := hTM k M' hM'
    cases hy.symm.trans hy2
    rcases e2 with e2 | ⟨-, e2⟩
    · exact absurd e2 hk
    · exact ⟨e1, e2, e3⟩
  rcases hTC _ _ _ _ _ _ hfd with ⟨rfl, hkn, hrc0, y, yc, mL, hy, ⟨n1, n2, n3⟩, hst, hin, hlk⟩ | ⟨rfl, hkn, y, yc, mL, n1', hy, rfl, ⟨n1, n2, n3⟩, hlk, hinm, hsel, hin, hrc⟩ | ⟨rfl, hkn, ⟨M2, hM2, hret⟩, y, yc, mL, n1', hy, rfl, ⟨n1, n2, n3⟩, hnm, hinm, hin, hlk, hrc1, hrc6⟩ | ⟨z, -⟩ | ⟨z, -⟩ | ⟨z, -⟩ | ⟨z, -⟩ | ⟨z, -⟩
  · have hie := hi.1 rfl
    subst hie
    obtain ⟨-, hcd, hmL⟩ := hcode hy hkn
    have hMet := hMO k as sh lg (xget o σ) r sh2 ol2 lg2 N ho y yc mL M' hy hM' hkn
    have hlen : (as.map (xcv g)).length = n := by rw [List.length_map, has, List.length_reverse, List.length_take]; omega
    rcases hlk with hlk | ⟨host, hlk⟩
    · have hgd : GoodIn xTs (va_wsS (xR M.1) idx y (Cond.code y yc mL M'.2.2.2.1 :: xTs)) := by
        refine xTs_goods fun w hw9 => ?_
        simp only [va_wsS, List.cons_append, List.nil_append, List.mem_cons] at hw9
        rcases hw9 with rfl | rfl | rfl | rfl | hw9
        · exact hlk
        · exact hst
        · exact hin
        · exact hcd
        · exact hw9
      exact fin (va_runS hS2 hMet (va_cwS n hts hgd rfl rfl rfl ⟨n1, n2, n3⟩ (hRm mL hmL)) ⟨xPre_blind, fun U hU hWm => ⟨rfl, hpre U hU hWm⟩⟩ rfl hlen hl.1 hstk.symm (hW8 _) hdc hcs)
    · exact fin (va_runSN hS2 hMet ⟨va_cnB n hts (xTs_good hcd) rfl rfl rfl (hST.2.2.2.2.1.1 _ hlk) (hts _ hin) ⟨n1, n2, n3⟩ (hRm mL hmL), hts _ hst, trivial⟩ ⟨xPre_blind, fun U hU hWm => ⟨rfl, hpre U hU hWm⟩⟩ rfl hlen hl.1 hstk.symm (hW8 _) hdc hcs)
  · have hie := hi.2.1 rfl
    subst hie
    obtain ⟨-, hcd, hmL⟩ := hcode hy hkn
    have hMet := hMO k as sh lg (xget o σ) r sh2 ol2 lg2 N ho y yc mL M' hy hM' hkn
    obtain ⟨v0, hv0⟩ : ∃ v0, st.drop n1' = v0 :: st.drop (n1' + 1) := ⟨st[n1']'(by omega), by rw [List.drop_eq_getElem_cons (by omega)]⟩
    have hhd : (st.drop (n1' + 1 - 1)).head? = some v0 := by rw [Nat.add_sub_cancel, hv0]; rfl
    have hrecv : ∃ b, xcv g v0 = .ref b ∧ ∃ cellB : Cell, H[b]? = some cellB ∧ cellB.vm.isStatics = false ∧ s.vm.findClass y.cls = some cellB.cls := by
      rw [hhd] at hrcv
      rcases hrc with ⟨ci, hci, hc100, T, N', hcl⟩ | ⟨hci, hys⟩
      · rcases hrcv with h9 | ⟨q, c', tags, h9, h10, hq9, hxa⟩ | ⟨w, h9, h10⟩
        · omega
        · cases h9
          have : c' = ci := by omega
          subst this
          obtain ⟨r', r1, -, -, cell, q1, q2, q3, -⟩ := hw.2 q _ hxa
          rw [hcl] at r1
          cases r1
          exact ⟨_, xcv_small hq9, cell, q1, by rw [q3]; rfl, by rw [q2]; exact (hK.1 _ _ hcl).2.1⟩
        · exfalso; omega
      · rcases hrcv with h9 | ⟨q, c', tags, h9, h10, hq9, hxa⟩ | ⟨w, h9, h10⟩
        · omega
        · have hc9 : c' = 100 := by omega
          subst hc9
          obtain ⟨r', r1, -⟩ := hw.2 q _ hxa
          have := vwlen r1
          omega
        · cases h9
          obtain ⟨cell, g1, g2, g3⟩ := vk_recv hST.2.2.2.1.1 (Nat.mod_lt w (by decide : 0 < 16)) hS
          exact ⟨_, rfl, cell, g1, g2, by rw [hys]; exact g3⟩
    obtain ⟨b, hvb, hcell⟩ := hrecv
    have has2 : as.map (xcv g) = .ref b :: ((st.take n1').reverse.map (xcv g)) := by
      rw [has, List.take_succ_eq_append_getElem (by omega), List.reverse_append]
      simp only [List.reverse_cons, List.reverse_nil, List.nil_append, List.cons_append, List.map_cons]
      have : st[n1']'(by omega) = v0 := by
        rw [List.drop_eq_getElem_cons (by omega)] at hv0
        exact (List.cons.inj hv0).1
      rw [this, hvb]
    have hgd : GoodIn xTs (wsV (xR M.1) idx y.cls y (Cond.code y yc mL M'.2.2.2.1 :: xTs)) := by
      refine xTs_goods fun w hw9 => ?_
      simp only [wsV, List.cons_append, List.nil_append, List.mem_cons] at hw9
      rcases hw9 with rfl | rfl | rfl | rfl | rfl | hw9
      · exact hlk
      · exact hinm
      · exact hsel
      · exact hin
      · exact hcd
      · exact hw9
    rw [has2] at hstk hMet
    refine fin (va_runV (As := (st.take n1').reverse.map (xcv g)) hS2 hMet (cwV n1' hts hgd rfl rfl rfl ⟨rfl, n1, n2, n3⟩ (hRm mL hmL)) ⟨xPre_blind, hcell, fun U hU hWm => ⟨rfl, hpre U hU hWm⟩⟩ rfl ?_ hl.1 ?_ (hW8 _) hdc hcs)
    · rw [List.length_map, List.length_reverse, List.length_take]; omega
    · rw [← hstk]
      simp
  · have hie := hi.2.2 rfl
    subst hie
    obtain ⟨-, hcd, hmL⟩ := hcode hy hkn
    have hMet := hMO k as sh lg (xget o σ) r sh2 ol2 lg2 N ho y yc mL M' hy hM' hkn
    cases hM2.symm.trans hM'
    rw [hret] at hcd hMet
    obtain ⟨v0, hv0⟩ : ∃ v0, st.drop n1' = v0 :: st.drop (n1' + 1) := ⟨st[n1']'(by omega), by rw [List.drop_eq_getElem_cons (by omega)]⟩
    have hhd : (st.drop (n1' + 1 - 1)).head? = some v0 := by rw [Nat.add_sub_cancel, hv0]; rfl
    have hrecv : ∃ b, xcv g v0 = .ref b := by
      rw [hhd] at hrcv
      rcases hrcv with h9 | ⟨q, c', tags, h9, h10, hq9, hxa⟩ | ⟨w, h9, h10⟩
      · omega
      · cases h9; exact ⟨_, xcv_small hq9⟩
      · omega
    obtain ⟨b, hvb⟩ := hrecv
    have has2 : as.map (xcv g) = .ref b :: ((st.take n1').reverse.map (xcv g)) := by
      rw [has, List.take_succ_eq_append_getElem (by omega), List.reverse_append]
      simp only [List.reverse_cons, List.reverse_nil, List.nil_append, List.cons_append, List.map_cons]
      have : st[n1']'(by omega) = v0 := by
        rw [List.drop_eq_getElem_cons (by omega)] at hv0
        exact (List.cons.inj hv0).1
      rw [this, hvb]
    rw [has2] at hstk hMet
    have hl2 : ((st.take n1').reverse.map (xcv g)).length = n1' := by rw [List.length_map, List.length_reverse, List.length_take]; omega
    have hst2 : (F0 m pc ls (st.map (xcv g))).stack = ((st.take n1').reverse.map (xcv g)).reverse ++ .ref b :: (st.drop (n1' + 1)).map (xcv g) := by
      show st.map (xcv g) = _
      rw [← hstk]
      simp
    rcases hlk with hlk | ⟨host, hlk⟩
    · exact fin (va_runI (As := (st.take n1').reverse.map (xcv g)) hS2 hMet (cwI n1' hts (xTs_good hcd) rfl rfl rfl (hts _ hin) (hts _ hlk) (hts _ hinm) hnm ⟨n1, n2, n3⟩ (hRm mL hmL)) ⟨xPre_blind, fun U hU hWm => ⟨rfl, hpre U hU hWm⟩⟩ rfl hl2 hl.1 hst2 (hW8 _) hdc hcs)
    · exact fin (va_runIN (As := (st.take n1').reverse.map (xcv g)) hS2 hMet ⟨va_cnB n1' hts (xTs_good hcd) rfl rfl rfl (hST.2.2.2.2.1.1 _ hlk) (hts _ hin) ⟨n1, n2, n3⟩ (hRm mL hmL), hnm, hts _ hinm⟩ ⟨xPre_blind, fun U hU hWm => ⟨rfl, hpre U hU hWm⟩⟩ rfl hl2 hl.1 hst2 (hW8 _) hdc hcs)
  · exact absurd (by omega) hne
  · exact absurd (by omega) hne
  · exact absurd (by omega) hne
  · exact absurd (by omega) hne
  · exact absurd (by omega) hne
end S11
end
section
/-! SOUNDNESS 12: which instructions call, which end -/
def xisC : Instr → Prop
  | .invokestatic _ => True
  | .invokevirtual _ => True
  | .invokespecial _ => True
  | _ => False
def xisR : Instr → Prop
  | .return_ => True
  | .ireturn => True
  | .lreturn => True
  | .areturn => True
  | _ => False
section S12
variable {X : xX} {M : xT} {σ : xM} {pc : Nat} {lv : xL} {st : List Value} {sh : xS} {o : xO} {lg : Int64} {i : Instr} {tgt : Nat} {cv : Int32} {cs : List (Int32 × Nat)}
section S12a
variable {z : Nat × List Value × xC} {a : xAc}
theorem xgt_nc {lv' : xL} {st' : List Value} {sh' : xS} {o' : xO} {lg' : Int64} (hz : a = .inr (.inl z)) (h : xgt M pc lv' st' sh' o' lg' = some a) : False := by
  subst hz
  unfold xgt at h
  simp at h
theorem xexec_isC (g : xG) (hz : a = .inr (.inl z)) (h : xexec XP M X σ i tgt cv cs pc lv st sh o lg = some a) : xisC i := by
  cases i with
  | aload j => obtain ⟨v, -, hg, -⟩ := xld_inv g h; exact (xgt_nc hz hg).elim
  | aload_n j => obtain ⟨v, -, hg, -⟩ := xld_inv g h; exact (xgt_nc hz hg).elim
  | iload j => obtain ⟨v, -, hg, -⟩ := xld_inv g h; exact (xgt_nc hz hg).elim
  | iload_n j => obtain ⟨v, -, hg, -⟩ := xld_inv g h; exact (xgt_nc hz hg).elim
  | lload j => obtain ⟨v, -, hg, -⟩ := xld_inv g h; exact (xgt_nc hz hg).elim
  | lload_n j => obtain ⟨v, -, hg, -⟩ := xld_inv g h; exact (xgt_nc hz hg).elim
  | astore j => rcases xst_inv h with ⟨-, _, _, -, hg⟩ | ⟨-, _, _, -, hg⟩ | ⟨-, _, _, -, hg⟩ <;> exact (xgt_nc hz hg).elim
  | astore_n j => rcases xst_inv h with ⟨-, _, _, -, hg⟩ | ⟨-, _, _, -, hg⟩ | ⟨-, _, _, -, hg⟩ <;> exact (xgt_nc hz hg).elim
  | istore j => rcases xst_inv h with ⟨-, _, _, -, hg⟩ | ⟨-, _, _, -, hg⟩ | ⟨-, _, _, -, hg⟩ <;> exact (xgt_nc hz hg).elim
  | istore_n j => rcases xst_inv h with ⟨-, _, _, -, hg⟩ | ⟨-, _, _, -, hg⟩ | ⟨-, _, _, -, hg⟩ <;> exact (xgt_nc hz hg).elim
  | lstore j => rcases xst_inv h with ⟨-, _, _, -, hg⟩ | ⟨-, _, _, -, hg⟩ | ⟨-, _, _, -, hg⟩ <;> exact (xgt_nc hz hg).elim
  | lstore_n j => rcases xst_inv h with ⟨-, _, _, -, hg⟩ | ⟨-, _, _, -, hg⟩ | ⟨-, _, _, -, hg⟩ <;> exact (xgt_nc hz hg).elim
  | iconst n => exact (xgt_nc hz h).elim
  | bipush n => exact (xgt_nc hz h).elim
  | sipush n => exact (xgt_nc hz h).elim
  | lconst n => exact (xgt_nc hz h).elim
  | ldc j => simp only [xexec] at h; split at h <;> first | exact (xgt_nc hz h).elim | cases h
  | ldc_w j => simp only [xexec] at h; split at h <;> first | exact (xgt_nc hz h).elim | cases h
  | ldc2_w j => simp only [xexec] at h; split at h <;> first | exact (xgt_nc hz h).elim | cases h
  | iadd => obtain ⟨_, _, _, -, hg⟩ := xin2_inv h; exact (xgt_nc hz hg).elim
  | isub => obtain ⟨_, _, _, -, hg⟩ := xin2_inv h; exact (xgt_nc hz hg).elim
  | imul => obtain ⟨_, _, _, -, hg⟩ := xin2_inv h; exact (xgt_nc hz hg).elim
  | iand => obtain ⟨_, _, _, -, hg⟩ := xin2_inv h; exact (xgt_nc hz hg).elim
  | ior => obtain ⟨_, _, _, -, hg⟩ := xin2_inv h; exact (xgt_nc hz hg).elim
  | ixor => obtain ⟨_, _, _, -, hg⟩ := xin2_inv h; exact (xgt_nc hz hg).elim
  | ishl => obtain ⟨_, _, _, -, hg⟩ := xin2_inv h; exact (xgt_nc hz hg).elim
  | ishr => obtain ⟨_, _, _, -, hg⟩ := xin2_inv h; exact (xgt_nc hz hg).elim
  | iushr => obtain ⟨_, _, _, -, hg⟩ := xin2_inv h; exact (xgt_nc hz hg).elim
  | idiv => obtain ⟨_, _, _, -, -, hg⟩ := xind_inv h; exact (xgt_nc hz hg).elim
  | irem => obtain ⟨_, _, _, -, -, hg⟩ := xind_inv h; exact (xgt_nc hz hg).elim
  | ineg => obtain ⟨_, _, -, hg⟩ := xin1_inv h; exact (xgt_nc hz hg).elim
  | i2b => obtain ⟨_, _, -, hg⟩ := xin1_inv h; exact (xgt_nc hz hg).elim
  | i2s => obtain ⟨_, _, -, hg⟩ := xin1_inv h; exact (xgt_nc hz hg).elim
  | i2c => obtain ⟨_, _, -, hg⟩ := xin1_inv h; exact (xgt_nc hz hg).elim
  | i2l => simp only [xexec] at h; split at h <;> first | exact (xgt_nc hz h).elim | cases h
  | l2i => simp only [xexec] at h; split at h <;> first | exact (xgt_nc hz h).elim | cases h
  | ladd => obtain ⟨_, _, _, -, hg⟩ := xln2_inv h; exact (xgt_nc hz hg).elim
  | lsub => obtain ⟨_, _, _, -, hg⟩ := xln2_inv h; exact (xgt_nc hz hg).elim
  | lmul => obtain ⟨_, _, _, -, hg⟩ := xln2_inv h; exact (xgt_nc hz hg).elim
  | ldiv => obtain ⟨_, _, _, -, -, hg⟩ := xlnd_inv h; exact (xgt_nc hz hg).elim
  | lrem => obtain ⟨_, _, _, -, -, hg⟩ := xlnd_inv h; exact (xgt_nc hz hg).elim
  | lcmp => simp only [xexec] at h; split at h <;> first | exact (xgt_nc hz h).elim | cases h
  | iinc j n => simp only [xexec] at h; split at h <;> first | exact (xgt_nc hz h).elim | cases h
  | pop =>
    simp only [xexec] at h
    split at h
    · rename_i v r
      cases hc1 : Nat.beq v.category 1 with
      | false => rw [hc1] at h; cases h
      | true => rw [hc1] at h; exact (xgt_nc hz h).elim
    · cases h
  | dup =>
    simp only [xexec] at h
    split at h
    · rename_i v r
      cases hc1 : Nat.beq v.category 1 with
      | false => rw [hc1] at h; cases h
      | true => rw [hc1] at h; exact (xgt_nc hz h).elim
    · cases h
  | dup2 =>
    simp only [xexec] at h
    split at h
    · rename_i v w r
      cases hc1 : (Nat.beq v.category 1 && Nat.beq w.category 1) with
      | false => rw [hc1] at h; cases h
      | true => rw [hc1] at h; exact (xgt_nc hz h).elim
    · cases h
  | goto off => exact (xgt_nc hz h).elim
  | ifCond cd off =>
    simp only [xexec] at h
    split at h
    · simp only [Option.some.injEq] at h; subst h; cases hz
    · cases h
  | if_icmp cd off =>
    simp only [xexec] at h
    split at h
    · simp only [Option.some.injEq] at h; subst h; cases hz
    · cases h
  | tableswitch _ _ _ _ =>
    simp only [xexec] at h
    split at h
    · simp only [Option.some.injEq] at h; subst h; cases hz
    · cases h
  | getfield j => obtain ⟨_, hg⟩ := xgetf_inv h; exact (xgt_nc hz hg).elim
  | putfield j =>
    obtain ⟨ci, k, ty, fin, v, q, r, tags, -, -, -, -, hxa, hcase⟩ := xputf_inv (σ := σ) h
    rcases hcase with ⟨x, -, -, -, hg⟩ | ⟨x, -, -, -, -, hg⟩ | ⟨t, -, -, -, -, hg⟩
    · exact (xgt_nc hz hg).elim
    · exact (xgt_nc hz hg).elim
    · exact (xgt_nc hz hg).elim
  | getstatic j => simp only [xexec] at h; split at h <;> first | exact (xgt_nc hz h).elim | cases h
  | iaload => obtain ⟨_, _, _, _, _, -, -, -, hg⟩ := xaload_inv h; exact (xgt_nc hz hg).elim
  | caload => obtain ⟨_, _, _, _, _, -, -, -, hg⟩ := xaload_inv h; exact (xgt_nc hz hg).elim
  | baload => obtain ⟨_, _, _, _, _, -, -, -, hg⟩ := xaload_inv h; exact (xgt_nc hz hg).elim
  | iastore => obtain ⟨_, _, _, _, _, _, -, -, -, -, -, hg⟩ := xastore_inv h; exact (xgt_nc hz hg).elim
  | castore => obtain ⟨_, _, _, _, _, _, -, -, -, -, -, hg⟩ := xastore_inv h; exact (xgt_nc hz hg).elim
  | arraylength =>
    simp only [xexec] at h
    split at h
    · split at h
      · exact (xgt_nc hz h).elim
      · cases h
    · cases h
  | newarray aty =>
    simp only [xexec] at h
    split at h
    · exact (xgt_nc hz (x_ite h).2).elim
    · exact (xgt_nc hz (x_ite h).2).elim
    · cases h
  | new j =>
    simp only [xexec] at h
    split at h
    · rename_i ci tags hfd
      cases hcnd : (Nat.ble sh.length 899 && (!(xmem tags 1) || Nat.ble (100 * sh.length) XP.2.2.2.2.2.2.2.2)) with
      | false => rw [hcnd] at h; cases h
      | true => rw [hcnd, cond_true] at h; exact (xgt_nc hz h).elim
    · cases h
  | invokestatic j => exact trivial
  | invokevirtual j => exact trivial
  | invokespecial j => exact trivial
  | return_ =>
    simp only [xexec, xret] at h
    split at h
    · simp only [Option.some.injEq] at h; subst h; cases hz
    · cases h
  | ireturn =>
    simp only [xexec, xret] at h
    split at h
    · simp only [Option.some.injEq] at h; subst h; cases hz
    · have h := (x_ite h).2; simp only [Option.some.injEq] at h; subst h; cases hz
    · have h := (x_ite h).2; simp only [Option.some.injEq] at h; subst h; cases hz
    · have h := (x_ite h).2; simp only [Option.some.injEq] at h; subst h; cases hz
    · cases h
  | lreturn =>
    simp only [xexec, xret] at h
    split at h
    · simp only [Option.some.injEq] at h; subst h; cases hz
    · cases h
  | areturn =>
    simp only [xexec, xret] at h
    split at h
    · simp only [Option.some.injEq] at h; subst h; cases hz
    · cases h
  | _ => cases h
end S12a
variable {z : xOut} {a : xAc}
theorem xgt_nr {lv' : xL} {st' : List Value} {sh' : xS} {o' : xO} {lg' : Int64} (hz : a = .inl z) (h : xgt M pc lv' st' sh' o' lg' = some a) : False := by
  subst hz
  unfold xgt at h
  simp at h
theorem xcallA_nr {kd idx : Nat} (hz : a = .inl z) (h : xcallA XP M σ kd idx pc lv sh o lg st = some a) : False := by
  unfold xcallA at h
  split at h
  · rename_i kind k' n rcv hfd
    cases h0 : Nat.beq kind kd with
    | false => rw [h0] at h; cases h
    | true =>
      rw [h0, cond_true] at h
      cases h3 : Nat.beq kd 3 with
      | true =>
        rw [h3, cond_true] at h
        split at h
        · rename_i n dp q1 sp q0 r
          cases hq : (Nat.ble q0 899 && (Nat.ble q1 899 && Nat.ble (xcat r) 8)) with
          | false => rw [hq] at h; cases h
          | true =>
            rw [hq, cond_true] at h
            split at h
            · exact xgt_nr hz (x_ite h).2
            · cases h
        · cases h
      | false =>
        rw [h3, cond_false] at h
        cases h4 : Nat.beq kd 4 with
        | true =>
          rw [h4, cond_true] at h
          split at h
          · rename_i q r
            cases hq : (Nat.ble q 899 && Nat.ble (xcat r) 8) with
            | false => rw [hq] at h; cases h
            | true => rw [hq, cond_true] at h; exact xgt_nr hz h
          · cases h
        | false =>
          rw [h4, cond_false] at h
          cases h5 : Nat.beq kd 5 with
          | true =>
            rw [h5, cond_true] at h
            split at h
            · rename_i y x r
              cases hq : Nat.ble (xcat r) 8 with
              | false => rw [hq] at h; cases h
              | true => rw [hq, cond_true] at h; exact xgt_nr hz h
            · cases h
          | false =>
            rw [h5, cond_false] at h
            cases h6 : Nat.beq kd 6 with
            | true =>
              rw [h6, cond_true] at h
              split at h
              · rename_i y x r
                cases hq : Nat.ble (xcat r) 8 with
                | false => rw [hq] at h; cases h
                | true => rw [hq, cond_true] at h; exact xgt_nr hz h
              · cases h
            | false =>
              rw [h6, cond_false] at h
              cases h7 : Nat.beq kd 7 with
              | true =>
                rw [h7, cond_true] at h
                split at h
                · rename_i y x r
                  cases hq : Nat.ble (xcat r) 8 with
                  | false => rw [hq] at h; cases h
                  | true => rw [hq, cond_true] at h; exact xgt_nr hz h
                · cases h
              | false =>
                rw [h7, cond_false] at h
                have aux : ∀ (b1 b2 : Bool) (w : Nat × List Value × xC), ((bif b1 then (bif b2 then some (Sum.inr (Sum.inl w)) else none) else none) : Option xAc) = some a → False := by
                  intro b1 b2 w h
                  cases b1
                  · cases h
                  · cases b2
                    · cases h
                    · simp only [cond_true, Option.some.injEq] at h; subst h; cases hz
                exact aux _ _ _ h
  · cases h
theorem xexec_isR (g : xG) (hz : a = .inl z) (h : xexec XP M X σ i tgt cv cs pc lv st sh o lg = some a) : xisR i := by
  cases i with
  | aload j => obtain ⟨v, -, hg, -⟩ := xld_inv g h; exact (xgt_nr hz hg).elim
  | aload_n j => obtain ⟨v, -, hg, -⟩ := xld_inv g h; exact (xgt_nr hz hg).elim
  | iload j => obtain ⟨v, -, hg, -⟩ := xld_inv g h; exact (xgt_nr hz hg).elim
  | iload_n j => obtain ⟨v, -, hg, -⟩ := xld_inv g h; exact (xgt_nr hz hg).elim
  | lload j => obtain ⟨v, -, hg, -⟩ := xld_inv g h; exact (xgt_nr hz hg).elim
  | lload_n j => obtain ⟨v, -, hg, -⟩ := xld_inv g h; exact (xgt_nr hz hg).elim
  | astore j => rcases xst_inv h with ⟨-, _, _, -, hg⟩ | ⟨-, _, _, -, hg⟩ | ⟨-, _, _, -, hg⟩ <;> exact (xgt_nr hz hg).elim
  | astore_n j => rcases xst_inv h with ⟨-, _, _, -, hg⟩ | ⟨-, _, _, -, hg⟩ | ⟨-, _, _, -, hg⟩ <;> exact (xgt_nr hz hg).elim
  | istore j => rcases xst_inv h with ⟨-, _, _, -, hg⟩ | ⟨-, _, _, -, hg⟩ | ⟨-, _, _, -, hg⟩ <;> exact (xgt_nr hz hg).elim
  | istore_n j => rcases xst_inv h with ⟨-, _, _, -, hg⟩ | ⟨-, _, _, -, hg⟩ | ⟨-, _, _, -, hg⟩ <;> exact (xgt_nr hz hg).elim
  | lstore j => rcases xst_inv h with ⟨-, _, _, -, hg⟩ | ⟨-, _, _, -, hg⟩ | ⟨-, _, _, -, hg⟩ <;> exact (xgt_nr hz hg).elim
  | lstore_n j => rcases xst_inv h with ⟨-, _, _, -, hg⟩ | ⟨-, _, _, -, hg⟩ | ⟨-, _, _, -, hg⟩ <;> exact (xgt_nr hz hg).elim
  | iconst n => exact (xgt_nr hz h).elim
  | bipush n => exact (xgt_nr hz h).elim
  | sipush n => exact (xgt_nr hz h).elim
  | lconst n => exact (xgt_nr hz h).elim
  | ldc j => simp only [xexec] at h; split at h <;> first | exact (xgt_nr hz h).elim | cases h
  | ldc_w j => simp only [xexec] at h; split at h <;> first | exact (xgt_nr hz h).elim | cases h
  | ldc2_w j => simp only [xexec] at h; split at h <;> first | exact (xgt_nr hz h).elim | cases h
  | iadd => obtain ⟨_, _, _, -, hg⟩ := xin2_inv h; exact (xgt_nr hz hg).elim
  | isub => obtain ⟨_, _, _, -, hg⟩ := xin2_inv h; exact (xgt_nr hz hg).elim
  | imul => obtain ⟨_, _, _, -, hg⟩ := xin2_inv h; exact (xgt_nr hz hg).elim
  | iand => obtain ⟨_, _, _, -, hg⟩ := xin2_inv h; exact (xgt_nr hz hg).elim
  | ior => obtain ⟨_, _, _, -, hg⟩ := xin2_inv h; exact (xgt_nr hz hg).elim
  | ixor => obtain ⟨_, _, _, -, hg⟩ := xin2_inv h; exact (xgt_nr hz hg).elim
  | ishl => obtain ⟨_, _, _, -, hg⟩ := xin2_inv h; exact (xgt_nr hz hg).elim
  | ishr => obtain ⟨_, _, _, -, hg⟩ := xin2_inv h; exact (xgt_nr hz hg).elim
  | iushr => obtain ⟨_, _, _, -, hg⟩ := xin2_inv h; exact (xgt_nr hz hg).elim
  | idiv => obtain ⟨_, _, _, -, -, hg⟩ := xind_inv h; exact (xgt_nr hz hg).elim
  | irem => obtain ⟨_, _, _, -, -, hg⟩ := xind_inv h; exact (xgt_nr hz hg).elim
  | ineg => obtain ⟨_, _, -, hg⟩ := xin1_inv h; exact (xgt_nr hz hg).elim
  | i2b => obtain ⟨_, _, -, hg⟩ := xin1_inv h; exact (xgt_nr hz hg).elim
  | i2s => obtain ⟨_, _, -, hg⟩ := xin1_inv h; exact (xgt_nr hz hg).elim
  | i2c => obtain ⟨_, _, -, hg⟩ := xin1_inv h; exact (xgt_nr hz hg).elim
  | i2l => simp only [xexec] at h; split at h <;> first | exact (xgt_nr hz h).elim | cases h
  | l2i => simp only [xexec] at h; split at h <;> first | exact (xgt_nr hz h).elim | cases h
  | ladd => obtain ⟨_, _, _, -, hg⟩ := xln2_inv h; exact (xgt_nr hz hg).elim
  | lsub => obtain ⟨_, _, _, -, hg⟩ := xln2_inv h; exact (xgt_nr hz hg).elim
  | lmul => obtain ⟨_, _, _, -, hg⟩ := xln2_inv h; exact (xgt_nr hz hg).elim
  | ldiv => obtain ⟨_, _, _, -, -, hg⟩ := xlnd_inv h; exact (xgt_nr hz hg).elim
  | lrem => obtain ⟨_, _, _, -, -, hg⟩ := xlnd_inv h; exact (xgt_nr hz hg).elim
  | lcmp => simp only [xexec] at h; split at h <;> first | exact (xgt_nr hz h).elim | cases h
  | iinc j n => simp only [xexec] at h; split at h <;> first | exact (xgt_nr hz h).elim | cases h
  | pop =>
    simp only [xexec] at h
    split at h
    · rename_i v r
      cases hc1 : Nat.beq v.category 1 with
      | false => rw [hc1] at h; cases h
      | true => rw [hc1] at h; exact (xgt_nr hz h).elim
    · cases h
  | dup =>
    simp only [xexec] at h
    split at h
    · rename_i v r
      cases hc1 : Nat.beq v.category 1 with
      | false => rw [hc1] at h; cases h
      | true => rw [hc1] at h; exact (xgt_nr hz h).elim
    · cases h
  | dup2 =>
    simp only [xexec] at h
    split at h
    · rename_i v w r
      cases hc1 : (Nat.beq v.category 1 && Nat.beq w.category 1) with
      | false => rw [hc1] at h; cases h
      | true => rw [hc1] at h; exact (xgt_nr hz h).elim
    · cases h
  | goto off => exact (xgt_nr hz h).elim
  | ifCond cd off =>
    simp only [xexec] at h
    split at h
    · simp only [Option.some.injEq] at h; subst h; cases hz
    · cases h
  | if_icmp cd off =>
    simp only [xexec] at h
    split at h
    · simp only [Option.some.injEq] at h; subst h; cases hz
    · cases h
  | tableswitch _ _ _ _ =>
    simp only [xexec] at h
    split at h
    · simp only [Option.some.injEq] at h; subst h; cases hz
    · cases h
  | getfield j => obtain ⟨_, hg⟩ := xgetf_inv h; exact (xgt_nr hz hg).elim
  | putfield j =>
    obtain ⟨ci, k, ty, fin, v, q, r, tags, -, -, -, -, hxa, hcase⟩ := xputf_inv (σ := σ) h
    rcases hcase with ⟨x, -, -, -, hg⟩ | ⟨x, -, -, -, -, hg⟩ | ⟨t, -, -, -, -, hg⟩
    · exact (xgt_nr hz hg).elim
    · exact (xgt_nr hz hg).elim
    · exact (xgt_nr hz hg).elim
  | getstatic j => simp only [xexec] at h; split at h <;> first | exact (xgt_nr hz h).elim | cases h
  | iaload => obtain ⟨_, _, _, _, _, -, -, -, hg⟩ := xaload_inv h; exact (xgt_nr hz hg).elim
  | caload => obtain ⟨_, _, _, _, _, -, -, -, hg⟩ := xaload_inv h; exact (xgt_nr hz hg).elim
  | baload => obtain ⟨_, _, _, _, _, -, -, -, hg⟩ := xaload_inv h; exact (xgt_nr hz hg).elim
  | iastore => obtain ⟨_, _, _, _, _, _, -, -, -, -, -, hg⟩ := xastore_inv h; exact (xgt_nr hz hg).elim
  | castore => obtain ⟨_, _, _, _, _, _, -, -, -, -, -, hg⟩ := xastore_inv h; exact (xgt_nr hz hg).elim
  | arraylength =>
    simp only [xexec] at h
    split at h
    · split at h
      · exact (xgt_nr hz h).elim
      · cases h
    · cases h
  | newarray aty =>
    simp only [xexec] at h
    split at h
    · exact (xgt_nr hz (x_ite h).2).elim
    · exact (xgt_nr hz (x_ite h).2).elim
    · cases h
  | new j =>
    simp only [xexec] at h
    split at h
    · rename_i ci tags hfd
      cases hcnd : (Nat.ble sh.length 899 && (!(xmem tags 1) || Nat.ble (100 * sh.length) XP.2.2.2.2.2.2.2.2)) with
      | false => rw [hcnd] at h; cases h
      | true => rw [hcnd, cond_true] at h; exact (xgt_nr hz h).elim
    · cases h
  | invokestatic j =>
    simp only [xexec] at h
    split at h
    · rename_i kind _ _ _ _
      cases hk : (Nat.beq kind 4 || (Nat.beq kind 1 || Nat.beq kind 2)) with
      | true => rw [hk] at h; cases h
      | false => rw [hk, cond_false] at h; exact (xcallA_nr hz h).elim
    · cases h
  | invokevirtual j => exact (xcallA_nr hz h).elim
  | invokespecial j =>
    simp only [xexec] at h
    split at h
    · rename_i kind _ _ _ _
      cases hk : (Nat.beq kind 4 || Nat.beq kind 2) with
      | false => rw [hk] at h; cases h
      | true => rw [hk, cond_true] at h; exact (xcallA_nr hz h).elim
    · cases h
  | return_ => exact trivial
  | ireturn => exact trivial
  | lreturn => exact trivial
  | areturn => exact trivial
  | _ => cases h
end S12
end
section
/-! SOUNDNESS 13: a run; a method's contract -/
section S13
variable {p : Program} {l : Launch} {e : Env} {R : Room} {s : State} {m : MethodId} {args : Array Value} {below : List Frame} {meth : Method} {c : Code} {Q : State → Prop} {g : xG} {X : xX} {cc : ByteArray} {nL n0 m0 : Nat} {M : xT} {σ : xM}
/-- an instruction's row, from a step that isn't a label's -/
theorem xact_row (hok : xmok cc nL M) {pc : Nat} {lv : xL} {st : List Value} {sh : xS} {o : xO} {lg : Int64} {a : xAc} (h : xact XP M X σ (pc, lv, st, sh, o, lg) = some a) (hns : ∀ c', a ≠ .inr (.inr c')) : pc < 100000 ∧ ∃ i ln tgt cv cs, xenok cc nL (pc, i, ln, tgt, cv, cs) = true ∧ xexec XP M X σ i tgt cv cs (pc + ln) lv st sh o lg = some a := by
  unfold xact at h
  cases hl : Nat.ble 100000 pc with
  | true =>
    simp only [hl, cond_true] at h
    split at h
    · simp only [Option.some.injEq] at h
      exact absurd h.symm (hns _)
    · cases h
  | false =>
    simp only [hl, cond_false] at h
    have hlt : pc < 100000 := by
      rcases Nat.lt_or_ge pc 100000 with z | z
      · exact z
      · rw [Nat.ble_eq_true_of_le z] at hl; cases hl
    split at h
    · rename_i ch hch
      split at h
      · rename_i i ln tgt cv cs hrow
        exact ⟨hlt, i, ln, tgt, cv, cs, hok.1 ch (by rw [xnth_get] at hch; exact List.mem_of_getElem? hch) _ (xfind_mem hrow), h⟩
      · cases h
    · cases h
theorem xact_call (Y : xYt) (hT : xTab Y) (hF : xFrm g X p s m args meth c R cc nL M) {d N : Nat} (hMO : MOK l g X Y d) (hd1 : d + 1 ≤ R.frames) (hd2 : 40 * d + 40 ≤ R.locals) {c0 : xC} {k : Nat} {as : List Value} {pc' : Nat} {lv' : xL} {st' : List Value} {sh1 : xS} {o' : xO} {lg' : Int64} {r : Option Value} {sh2 : xS} {ol2 : xO} {lg2 : Int64}
    (h : xact XP M X σ c0 = some (.inr (.inl (k, as, pc', lv', st', sh1, o', lg')))) (ho : xcall XP X d N k as sh1 lg' (xget o' σ) = some (r, sh2, ol2, lg2)) (hroom : sh2.length ≤ n0 + R.cells ∧ xsl sh2 ≤ m0 + R.slots)
    (kk : xJ p l e R s m args below meth c Q g nL n0 m0 σ (pc', lv', r.toList ++ st', sh2, xmrg o' ol2, lg2)) : xJ p l e R s m args below meth c Q g nL n0 m0 σ c0 := by
  obtain ⟨pc, lv, st, sh, o, lg⟩ := c0
  obtain ⟨hlt, i, ln, tgt, cv, cs, hr, hx⟩ := xact_row hF.2.2.2.2.2.2.2.2.2.1 h (fun c' z => by simp at z)
  obtain ⟨-, hd, hpc, -, -, -, h2⟩ := xex_dec hr
  dsimp only at hd hpc h2
  have hi := xexec_isC g rfl hx
  suffices hh : xAtW p l e R s m args below meth c Q g nL n0 m0 σ pc lv st sh o lg by
    intro H locs cells slots ls a1 a2 a3 a4 a5
    rw [xrp_lt hlt]
    exact hh H locs cells slots ls a1 a2 a3 a4 a5
  cases i with
  | invokestatic j =>
    have hln : ln = 3 := Nat.eq_of_beq_eq_true h2
    subst hln
    simp only [xexec] at hx
    split at hx
    · rename_i kind _ _ _ _
      cases hk : (Nat.beq kind 4 || (Nat.beq kind 1 || Nat.beq kind 2)) with
      | true => rw [hk] at hx; cases hx
      | false =>
        rw [hk, cond_false] at hx
        simp only [Bool.or_eq_false_iff] at hk
        exact xcallA_sound Y hT hF hMO hd1 hd2 hd ⟨fun _ => rfl, fun z => by rw [z] at hk; exact absurd hk.2.1 (by decide), fun z => by rw [z] at hk; exact absurd hk.2.2 (by decide)⟩ hpc hx ho hroom kk
    · cases hx
  | invokevirtual j =>
    have hln : ln = 3 := Nat.eq_of_beq_eq_true h2
    subst hln
    exact xcallA_sound Y hT hF hMO hd1 hd2 hd ⟨fun z => absurd z (by decide), fun _ => rfl, fun z => absurd z (by decide)⟩ hpc hx ho hroom kk
  | invokespecial j =>
    have hln : ln = 3 := Nat.eq_of_beq_eq_true h2
    subst hln
    simp only [xexec] at hx
    split at hx
    · rename_i kind _ _ _ _
      cases hk : (Nat.beq kind 4 || Nat.beq kind 2) with
      | false => rw [hk] at hx; cases hx
      | true =>
        rw [hk, cond_true] at hx
        simp only [Bool.or_eq_true] at hk
        refine xcallA_sound Y hT hF hMO hd1 hd2 hd ⟨fun z => ?_, fun z => ?_, fun _ => rfl⟩ hpc hx ho hroom kk
        · exfalso
          rcases hk with hk | hk
          · have := Nat.eq_of_beq_eq_true hk; omega
          · have := Nat.eq_of_beq_eq_true hk; omega
        · exfalso
          rcases hk with hk | hk
          · have := Nat.eq_of_beq_eq_true hk; omega
          · have := Nat.eq_of_beq_eq_true hk; omega
    · cases hx
  | _ => exact absurd hi id
/-- a run inside a method: what is needed at its end is told -/
theorem xgo_sound (Y : xYt) (hT : xTab Y) (hF : xFrm g X p s m args meth c R cc nL M) {d N : Nat} (hMO : MOK l g X Y d) (hd1 : d + 1 ≤ R.frames) (hd2 : 40 * d + 40 ≤ R.locals) {r : Option Value} {sh' : xS} {ol' : xO} {lg' : Int64} (hroom : sh'.length ≤ n0 + R.cells ∧ xsl sh' ≤ m0 + R.slots)
    (hend : ∀ c0 : xC, xact XP M X σ c0 = some (.inl (r, sh', ol', lg')) → xJ p l e R s m args below meth c Q g nL n0 m0 σ c0) : ∀ (n : Nat) (c0 : xC), xgo XP (xcall XP X d N) M X σ n c0 = some (r, sh', ol', lg') → xJ p l e R s m args below meth c Q g nL n0 m0 σ c0 := by
  intro n
  induction n with
  | zero => intro c0 h; cases h
  | succ n ih =>
    intro c0 h
    have hmo := fun c0 h => xgo_mon (orc := xcall XP X d N) (M := M) (X := X) (σ := σ) g (fun k as sh lg σ r sh' ol' lg' h => xcall_mon g d N k as sh lg σ r sh' ol' lg' h) n c0 r sh' ol' lg' h
    rw [xgo] at h
    split at h
    · cases h
    · rename_i o ha
      cases h
      exact hend c0 ha
    · rename_i ha
      split at h
      · cases h
      · rename_i ho
        have h1 := hmo _ h
        dsimp only at h1
        exact xact_call Y hT hF hMO hd1 hd2 ha ho (by omega) (ih _ h)
    · rename_i c1 ha
      have h1 := hmo _ h
      exact xact_sound Y hT hF (by omega) ha (ih _ h)
/-- a method's end -/
theorem xend_sound (hF : xFrm g X p s m args meth c R cc nL M) (hrt : meth.sig.returnType = M.2.2.2.1) (hlk : meth.locks = false) {r : Option Value} {sh' : xS} {ol' : xO} {lg' : Int64} {c0 : xC} (h : xact XP M X σ c0 = some (.inl (r, sh', ol', lg'))) : xJ p l e R s m args below meth c (MQ below (xPost g r sh' (xget ol' σ) lg') args s (sh'.length - n0) (xsl sh' - m0) (g_A g)) g nL n0 m0 σ c0 := by
  obtain ⟨pc, lv, st, sh, o, lg⟩ := c0
  obtain ⟨hlt, i, ln, tgt, cv, cs, hr, hx⟩ := xact_row hF.2.2.2.2.2.2.2.2.2.1 h (fun c' z => by simp at z)
  obtain ⟨-, hd, hpc, -, -, -, h2⟩ := xex_dec hr
  dsimp only at hd hpc h2
  have hi := xexec_isR g rfl hx
  obtain ⟨hxx, hb, hml, hown, hts, hK, hST, hs0, hini, hok, hR1, hR2⟩ := hF
  intro H locs cells slots ls hw hS hl ha hz
  rw [xrp_lt hlt]
  have hq : ∀ (v : Option Value), r = v → sh' = sh → ol' = o → lg' = lg → ∀ t : State, t.heap = H → s.WarmedH t.vm → xPost g r sh' (xget ol' σ) lg' args s (.returned (v.map (xcv g))) t := by
    rintro v rfl rfl rfl rfl t ht hW
    exact ⟨⟨rfl, by rw [ht]; exact hw⟩, hS.F ht⟩
  have e1 : ∀ {sh2 : xS}, sh2 = sh → sh2.length - n0 = cells ∧ xsl sh2 - m0 = slots := by rintro sh2 rfl; omega
  cases i with
  | return_ =>
    have hln : ln = 1 := Nat.eq_of_beq_eq_true h2
    subst hln
    simp only [xexec, xret] at hx
    split at hx
    · rename_i hret
      simp only [Option.some.injEq, Sum.inl.injEq, Prod.mk.injEq] at hx
      obtain ⟨a1, a2, a3, a4⟩ := hx
      obtain ⟨b1, b2⟩ := e1 a2.symm
      rw [b1, b2]
      exact W.vret hxx hb (hrt.trans hret) (hq none a1.symm a2.symm a3.symm a4.symm) hS.2.2 hd hlk
    · cases hx
  | ireturn =>
    have hln : ln = 1 := Nat.eq_of_beq_eq_true h2
    subst hln
    simp only [xexec, xret] at hx
    split at hx
    · rename_i x hret
      simp only [Option.some.injEq, Sum.inl.injEq, Prod.mk.injEq] at hx
      obtain ⟨a1, a2, a3, a4⟩ := hx
      obtain ⟨b1, b2⟩ := e1 a2.symm
      rw [b1, b2]
      exact W.iret (v := x) hxx hb (hrt.trans hret) (hq (some (.int x)) a1.symm a2.symm a3.symm a4.symm) hS.2.2 hd hlk
    · rename_i x hret
      obtain ⟨h01, hx⟩ := x_ite hx
      simp only [Option.some.injEq, Sum.inl.injEq, Prod.mk.injEq] at hx
      obtain ⟨a1, a2, a3, a4⟩ := hx
      obtain ⟨b1, b2⟩ := e1 a2.symm
      rw [b1, b2]
      exact W.zret (v := x) (ty := .boolean) hxx hb (hrt.trans hret) (by rcases h01 with rfl | rfl <;> rfl) (hq (some (.int x)) a1.symm a2.symm a3.symm a4.symm) hS.2.2 hd hlk
    · rename_i x hret
      obtain ⟨h01, hx⟩ := x_ite hx
      simp only [Option.some.injEq, Sum.inl.injEq, Prod.mk.injEq] at hx
      obtain ⟨a1, a2, a3, a4⟩ := hx
      obtain ⟨b1, b2⟩ := e1 a2.symm
      rw [b1, b2]
      exact W.zret (v := x) (ty := .byte) hxx hb (hrt.trans hret) (show Value.int (vp_nar .byte x) = .int x by rw [h01]) (hq (some (.int x)) a1.symm a2.symm a3.symm a4.symm) hS.2.2 hd hlk
    · rename_i x hret
      obtain ⟨h01, hx⟩ := x_ite hx
      simp only [Option.some.injEq, Sum.inl.injEq, Prod.mk.injEq] at hx
      obtain ⟨a1, a2, a3, a4⟩ := hx
      obtain ⟨b1, b2⟩ := e1 a2.symm
      rw [b1, b2]
      exact W.zret (v := x) (ty := .char) hxx hb (hrt.trans hret) (show Value.int (vp_nar .char x) = .int x by rw [h01]) (hq (some (.int x)) a1.symm a2.symm a3.symm a4.symm) hS.2.2 hd hlk
    · cases hx
  | lreturn =>
    have hln : ln = 1 := Nat.eq_of_beq_eq_true h2
    subst hln
    simp only [xexec, xret] at hx
    split at hx
    · rename_i x hret
      simp only [Option.some.injEq, Sum.inl.injEq, Prod.mk.injEq] at hx
      obtain ⟨a1, a2, a3, a4⟩ := hx
      obtain ⟨b1, b2⟩ := e1 a2.symm
      rw [b1, b2]
      exact W.lret (v := x) hxx hb (hrt.trans hret) (hq (some (.long x)) a1.symm a2.symm a3.symm a4.symm) hS.2.2 hd hlk
    · cases hx
  | areturn =>
    have hln : ln = 1 := Nat.eq_of_beq_eq_true h2
    subst hln
    simp only [xexec, xret] at hx
    split at hx
    · rename_i w n hret
      simp only [Option.some.injEq, Sum.inl.injEq, Prod.mk.injEq] at hx
      obtain ⟨a1, a2, a3, a4⟩ := hx
      obtain ⟨b1, b2⟩ := e1 a2.symm
      rw [b1, b2]
      exact W.aret (v := .ref (g_K g (w % 16))) hxx hb (hrt.trans hret) (Or.inl ⟨_, rfl⟩) (Or.inr ⟨_, rfl⟩) (hq (some (.retAddr w)) a1.symm a2.symm a3.symm a4.symm) hS.2.2 hd hlk
    · cases hx
  | _ => exact absurd hi id
theorem xcl_args (hf : g_f g = .null ∨ ∃ a, g_f g = .ref a) : ∀ (as : List Value) (i : Nat), lv_args i (as.map (xcv g)) = xcl g (lv_args i as) := by
  intro as
  induction as with
  | nil => intro i; rfl
  | cons v as ih =>
    intro i
    rw [List.map_cons, lv_args, lv_args, xcl, List.map_cons, xcv_cat g hf, ih]
    rfl
theorem xsl_len (hf : g_f g = .null ∨ ∃ a, g_f g = .ref a) : ∀ as : List Value, (lg_sl (as.map (xcv g))).length ≤ xcat as := by
  intro as
  induction as with
  | nil => exact Nat.le_refl _
  | cons v as ih =>
    have h1 : lg_sl ((v :: as).map (xcv g)) = (if (xcv g v).category = 2 then [.val (xcv g v), .second] else [.val (xcv g v)]) ++ lg_sl (as.map (xcv g)) := by simp [lg_sl]
    have h2 : xcat (v :: as) = v.category + xcat as := by simp [xcat]
    rw [h1, List.length_append, h2, xcv_cat g hf]
    have h3 : v.category = 1 ∨ v.category = 2 := lv_cat v
    split
    · simp; omega
    · simp; omega
theorem MOK_all (Y : xYt) (hT : xTab Y) : ∀ d, MOK l g X Y d := by
  intro d
  induction d with
  | zero => intro k as sh lg σ r sh' ol' lg' N h; cases h
  | succ d ih =>
    intro k as sh lg σ r sh' ol' lg' N h y cc mL M hy hM hk
    obtain ⟨y2, cc2, mL2, hy2, e1, e2, e3, e4, hok, hini⟩ := hT.2.2.2.2.2.2.2 k M hM
    cases hy.symm.trans hy2
    obtain ⟨hpl, hcd⟩ := e2.resolve_left hk
    have hmono := xcall_mon g (d + 1) N k as sh lg σ r sh' ol' lg' h
    have hMx : xnth XP.1 k = some M := hM
    simp only [xcall, hMx] at h
    cases hb : Nat.ble (xcat as) M.2.2.2.2.2 with
    | false => rw [hb] at h; cases h
    | true =>
      rw [hb, cond_true] at h
      have hle := Nat.le_of_ble_eq_true hb
      refine Met.ofW (cc := cc) (maxL := mL) (ret := M.2.2.2.1) hpl rfl ?_
      intro p e s m args below meth c s₁ B hml hv
      obtain ⟨rfl, hw, hK, hST⟩ := hv
      have hf := hST.2.2.1.2.2
      have hts0 := atoms_spec (ws := Cond.code y cc mL M.2.2.2.1 :: xTs) B.pre
      have hown : s.vm.findClass (xR M.1) = some m.cls := by rw [← e1]; exact findClass_of_methodNamed B.named
      have hF : xFrm g X p s m ((as.map (xcv g)).toArray) meth c (xrm (d + 1) (sh'.length - sh.length) (xsl sh' - xsl sh)) cc mL M := ⟨B.exec, B.bytes, hml, hown, fun w hw9 => hts0 w (List.mem_cons_of_mem _ hw9), hK, hST, by rw [hw.1]; omega, fun hi => by rw [(name_of_methodNamed B.named B.method).1]; exact hini hi, hok, by show 1 ≤ d + 1; omega, by show 40 ≤ 40 * (d + 1); omega⟩
      have hl := lv_entry (as.map (xcv g)) (n := mL) (Nat.le_trans (xsl_len hf as) (by omega))
      rw [lg_entry_eq]
      generalize (lg_sl (as.map (xcv g)) ++ List.replicate (mL - (lg_sl (as.map (xcv g))).length) Slot.unset).toArray = ls at hl ⊢
      rw [xcl_args hf] at hl
      have hrun := xgo_sound (l := l) (e := e) (below := below) (n0 := sh.length) (m0 := xsl sh) Y hT hF ih (by show d + 1 ≤ d + 1; omega) (by show 40 * d + 40 ≤ 40 * (d + 1); omega) (by constructor <;> (show _ ≤ _ + (_ - _); omega)) (fun c0 h0 => xend_sound hF B.returns B.notSynchronized h0) N _ h
      have h9 := hrun s.heap [] 0 0 ls hw va_S.rf hl (by omega) (by omega)
      rw [xrp_lt (by omega)] at h9
      exact h9
end S13
end
section
/-! the tables are right, 0 (by gen/tabok.py) -/
/-! the tables are right (by gen/tabok.py) -/

theorem tin_1 : ∀ w ∈ tables_1_1, w ∈ lw_tbl := fun w h => List.mem_append_right _ (List.mem_append_left _ h)
theorem tin_2 : ∀ w ∈ tables_1_2, w ∈ lw_tbl := fun w h => List.mem_append_right _ (List.mem_append_right _ (List.mem_append_left _ h))
theorem tin_3 : ∀ w ∈ tables_1_3, w ∈ lw_tbl := fun w h => List.mem_append_right _ (List.mem_append_right _ (List.mem_append_right _ (List.mem_append_left _ h)))
theorem tin_4 : ∀ w ∈ tables_1_4, w ∈ lw_tbl := fun w h => List.mem_append_right _ (List.mem_append_right _ (List.mem_append_right _ (List.mem_append_right _ (List.mem_append_left _ h))))
theorem tin_5 : ∀ w ∈ tables_1_5, w ∈ lw_tbl := fun w h => List.mem_append_right _ (List.mem_append_right _ (List.mem_append_right _ (List.mem_append_right _ (List.mem_append_right _ (List.mem_append_left _ h)))))
theorem tin_6 : ∀ w ∈ tables_1_6, w ∈ lw_tbl := fun w h => List.mem_append_right _ (List.mem_append_right _ (List.mem_append_right _ (List.mem_append_right _ (List.mem_append_right _ (List.mem_append_right _ (h))))))
theorem tpr_1 : ∀ w ∈ k2_sels lw_privs_1, w ∈ lw_tbl := fun w h => List.mem_append_left _ (by
  obtain ⟨q, hq, rfl⟩ := List.mem_map.mp h
  exact List.mem_map.mpr ⟨q, (show q ∈ lw_privs from List.mem_append_left _ hq), rfl⟩)
theorem tpr_2 : ∀ w ∈ k2_sels lw_privs_2, w ∈ lw_tbl := fun w h => List.mem_append_left _ (by
  obtain ⟨q, hq, rfl⟩ := List.mem_map.mp h
  exact List.mem_map.mpr ⟨q, (show q ∈ lw_privs from List.mem_append_right _ (List.mem_append_left _ hq)), rfl⟩)
theorem tpr_3 : ∀ w ∈ k2_sels lw_privs_3, w ∈ lw_tbl := fun w h => List.mem_append_left _ (by
  obtain ⟨q, hq, rfl⟩ := List.mem_map.mp h
  exact List.mem_map.mpr ⟨q, (show q ∈ lw_privs from List.mem_append_right _ (List.mem_append_right _ (List.mem_append_left _ hq))), rfl⟩)
theorem tpr_4 : ∀ w ∈ k2_sels lw_privs_4, w ∈ lw_tbl := fun w h => List.mem_append_left _ (by
  obtain ⟨q, hq, rfl⟩ := List.mem_map.mp h
  exact List.mem_map.mpr ⟨q, (show q ∈ lw_privs from List.mem_append_right _ (List.mem_append_right _ (List.mem_append_right _ (hq)))), rfl⟩)
theorem tl_0_0 : u_lay RX1 TX1 0 ∈ xTs := (xTs_in (tin_1 _ (List.mem_of_getElem? (i := 127) rfl)) rfl)
theorem tl_0_1 : u_lay RX1 TX1 1 ∈ xTs := (xTs_in (tin_1 _ (List.mem_of_getElem? (i := 129) rfl)) rfl)
theorem tl_0_2 : u_lay RX1 TX1 2 ∈ xTs := (xTs_in (tin_1 _ (List.mem_of_getElem? (i := 131) rfl)) rfl)
theorem tl_0_3 : u_lay RX1 TX1 3 ∈ xTs := (xTs_in (tin_1 _ (List.mem_of_getElem? (i := 133) rfl)) rfl)
theorem tl_0_4 : u_lay RX1 TX1 4 ∈ xTs := (xTs_in (tin_1 _ (List.mem_of_getElem? (i := 135) rfl)) rfl)
theorem tl_0_5 : u_lay RX1 TX1 5 ∈ xTs := (xTs_in (tin_1 _ (List.mem_of_getElem? (i := 137) rfl)) rfl)
theorem tl_0_6 : u_lay RX1 TX1 6 ∈ xTs := (xTs_in (tin_1 _ (List.mem_of_getElem? (i := 139) rfl)) rfl)
theorem tl_0_7 : u_lay RX1 TX1 7 ∈ xTs := (xTs_in (tin_1 _ (List.mem_of_getElem? (i := 141) rfl)) rfl)
theorem tl_0_8 : u_lay RX1 TX1 8 ∈ xTs := (xTs_in (tin_1 _ (List.mem_of_getElem? (i := 143) rfl)) rfl)
theorem tl_0_9 : u_lay RX1 TX1 9 ∈ xTs := (xTs_in (tin_1 _ (List.mem_of_getElem? (i := 145) rfl)) rfl)
theorem tl_0_10 : u_lay RX1 TX1 10 ∈ xTs := (xTs_in (tin_1 _ (List.mem_of_getElem? (i := 147) rfl)) rfl)
theorem tl_0_11 : u_lay RX1 TX1 11 ∈ xTs := (xTs_in (tin_1 _ (List.mem_of_getElem? (i := 149) rfl)) rfl)
theorem tl_0_12 : u_lay RX1 TX1 12 ∈ xTs := (xTs_in (tin_1 _ (List.mem_of_getElem? (i := 151) rfl)) rfl)
theorem tl_0_13 : u_lay RX1 TX1 13 ∈ xTs := (xTs_in (tin_1 _ (List.mem_of_getElem? (i := 153) rfl)) rfl)
theorem tl_0_14 : u_lay RX1 TX1 14 ∈ xTs := (xTs_in (tin_1 _ (List.mem_of_getElem? (i := 155) rfl)) rfl)
theorem tl_0_15 : u_lay RX1 TX1 15 ∈ xTs := (xTs_in (tin_1 _ (List.mem_of_getElem? (i := 157) rfl)) rfl)
theorem tl_0 : ∀ w ∈ u_ws RX1 TX1 16, w ∈ xTs := by
  show ∀ w ∈ [u_lay RX1 TX1 0, u_lay RX1 TX1 1, u_lay RX1 TX1 2, u_lay RX1 TX1 3, u_lay RX1 TX1 4, u_lay RX1 TX1 5, u_lay RX1 TX1 6, u_lay RX1 TX1 7, u_lay RX1 TX1 8, u_lay RX1 TX1 9, u_lay RX1 TX1 10, u_lay RX1 TX1 11, u_lay RX1 TX1 12, u_lay RX1 TX1 13, u_lay RX1 TX1 14, u_lay RX1 TX1 15], w ∈ xTs
  exact List.forall_mem_cons.mpr ⟨tl_0_0, List.forall_mem_cons.mpr ⟨tl_0_1, List.forall_mem_cons.mpr ⟨tl_0_2, List.forall_mem_cons.mpr ⟨tl_0_3, List.forall_mem_cons.mpr ⟨tl_0_4, List.forall_mem_cons.mpr ⟨tl_0_5, List.forall_mem_cons.mpr ⟨tl_0_6, List.forall_mem_cons.mpr ⟨tl_0_7, List.forall_mem_cons.mpr ⟨tl_0_8, List.forall_mem_cons.mpr ⟨tl_0_9, List.forall_mem_cons.mpr ⟨tl_0_10, List.forall_mem_cons.mpr ⟨tl_0_11, List.forall_mem_cons.mpr ⟨tl_0_12, List.forall_mem_cons.mpr ⟨tl_0_13, List.forall_mem_cons.mpr ⟨tl_0_14, List.forall_mem_cons.mpr ⟨tl_0_15, fun _ h => absurd h List.not_mem_nil⟩⟩⟩⟩⟩⟩⟩⟩⟩⟩⟩⟩⟩⟩⟩⟩
theorem tdc_0 : ∀ k, k < 16 → (TX1 k).1 = RX1 := by decide +kernel
theorem tl_1_0 : u_lay RX2 TX2 0 ∈ xTs := (xTs_in (tin_1 _ (List.mem_of_getElem? (i := 69) rfl)) rfl)
theorem tl_1_1 : u_lay RX2 TX2 1 ∈ xTs := (xTs_in (tin_1 _ (List.mem_of_getElem? (i := 71) rfl)) rfl)
theorem tl_1_2 : u_lay RX2 TX2 2 ∈ xTs := (xTs_in (tin_1 _ (List.mem_of_getElem? (i := 73) rfl)) rfl)
theorem tl_1_3 : u_lay RX2 TX2 3 ∈ xTs := (xTs_in (tin_1 _ (List.mem_of_getElem? (i := 75) rfl)) rfl)
theorem tl_1_4 : u_lay RX2 TX2 4 ∈ xTs := (xTs_in (tin_1 _ (List.mem_of_getElem? (i := 77) rfl)) rfl)
theorem tl_1_5 : u_lay RX2 TX2 5 ∈ xTs := (xTs_in (tin_1 _ (List.mem_of_getElem? (i := 79) rfl)) rfl)
theorem tl_1_6 : u_lay RX2 TX2 6 ∈ xTs := (xTs_in (tin_1 _ (List.mem_of_getElem? (i := 81) rfl)) rfl)
theorem tl_1_7 : u_lay RX2 TX2 7 ∈ xTs := (xTs_in (tin_1 _ (List.mem_of_getElem? (i := 83) rfl)) rfl)
theorem tl_1_8 : u_lay RX2 TX2 8 ∈ xTs := (xTs_in (tin_1 _ (List.mem_of_getElem? (i := 85) rfl)) rfl)
theorem tl_1_9 : u_lay RX2 TX2 9 ∈ xTs := (xTs_in (tin_1 _ (List.mem_of_getElem? (i := 87) rfl)) rfl)
theorem tl_1_10 : u_lay RX2 TX2 10 ∈ xTs := (xTs_in (tin_1 _ (List.mem_of_getElem? (i := 89) rfl)) rfl)
theorem tl_1_11 : u_lay RX2 TX2 11 ∈ xTs := (xTs_in (tin_1 _ (List.mem_of_getElem? (i := 91) rfl)) rfl)
theorem tl_1_12 : u_lay RX2 TX2 12 ∈ xTs := (xTs_in (tin_1 _ (List.mem_of_getElem? (i := 93) rfl)) rfl)
theorem tl_1_13 : u_lay RX2 TX2 13 ∈ xTs := (xTs_in (tin_1 _ (List.mem_of_getElem? (i := 95) rfl)) rfl)
theorem tl_1_14 : u_lay RX2 TX2 14 ∈ xTs := (xTs_in (tin_1 _ (List.mem_of_getElem? (i := 97) rfl)) rfl)
theorem tl_1 : ∀ w ∈ u_ws RX2 TX2 15, w ∈ xTs := by
  show ∀ w ∈ [u_lay RX2 TX2 0, u_lay RX2 TX2 1, u_lay RX2 TX2 2, u_lay RX2 TX2 3, u_lay RX2 TX2 4, u_lay RX2 TX2 5, u_lay RX2 TX2 6, u_lay RX2 TX2 7, u_lay RX2 TX2 8, u_lay RX2 TX2 9, u_lay RX2 TX2 10, u_lay RX2 TX2 11, u_lay RX2 TX2 12, u_lay RX2 TX2 13, u_lay RX2 TX2 14], w ∈ xTs
  exact List.forall_mem_cons.mpr ⟨tl_1_0, List.forall_mem_cons.mpr ⟨tl_1_1, List.forall_mem_cons.mpr ⟨tl_1_2, List.forall_mem_cons.mpr ⟨tl_1_3, List.forall_mem_cons.mpr ⟨tl_1_4, List.forall_mem_cons.mpr ⟨tl_1_5, List.forall_mem_cons.mpr ⟨tl_1_6, List.forall_mem_cons.mpr ⟨tl_1_7, List.forall_mem_cons.mpr ⟨tl_1_8, List.forall_mem_cons.mpr ⟨tl_1_9, List.forall_mem_cons.mpr ⟨tl_1_10, List.forall_mem_cons.mpr ⟨tl_1_11, List.forall_mem_cons.mpr ⟨tl_1_12, List.forall_mem_cons.mpr ⟨tl_1_13, List.forall_mem_cons.mpr ⟨tl_1_14, fun _ h => absurd h List.not_mem_nil⟩⟩⟩⟩⟩⟩⟩⟩⟩⟩⟩⟩⟩⟩⟩
theorem tdc_1 : ∀ k, k < 15 → (TX2 k).1 = RX2 := by decide +kernel
theorem tl_2_0 : u_lay RX3 TX3 0 ∈ xTs := (xTs_in (tin_1 _ (List.mem_of_getElem? (i := 209) rfl)) rfl)
theorem tl_2_1 : u_lay RX3 TX3 1 ∈ xTs := (xTs_in (tin_1 _ (List.mem_of_getElem? (i := 211) rfl)) rfl)
theorem tl_2_2 : u_lay RX3 TX3 2 ∈ xTs := (xTs_in (tin_1 _ (List.mem_of_getElem? (i := 213) rfl)) rfl)
theorem tl_2 : ∀ w ∈ u_ws RX3 TX3 3, w ∈ xTs := by
  show ∀ w ∈ [u_lay RX3 TX3 0, u_lay RX3 TX3 1, u_lay RX3 TX3 2], w ∈ xTs
  exact List.forall_mem_cons.mpr ⟨tl_2_0, List.forall_mem_cons.mpr ⟨tl_2_1, List.forall_mem_cons.mpr ⟨tl_2_2, fun _ h => absurd h List.not_mem_nil⟩⟩⟩
theorem tdc_2 : ∀ k, k < 3 → (TX3 k).1 = RX3 := by decide +kernel
theorem tl_3_0 : u_lay RX4 TX4 0 ∈ xTs := (xTs_in (tin_1 _ (List.mem_of_getElem? (i := 177) rfl)) rfl)
theorem tl_3_1 : u_lay RX4 TX4 1 ∈ xTs := (xTs_in (tin_1 _ (List.mem_of_getElem? (i := 179) rfl)) rfl)
theorem tl_3_2 : u_lay RX4 TX4 2 ∈ xTs := (xTs_in (tin_1 _ (List.mem_of_getElem? (i := 181) rfl)) rfl)
theorem tl_3_3 : u_lay RX4 TX4 3 ∈ xTs := (xTs_in (tin_1 _ (List.mem_of_getElem? (i := 183) rfl)) rfl)
theorem tl_3_4 : u_lay RX4 TX4 4 ∈ xTs := (xTs_in (tin_1 _ (List.mem_of_getElem? (i := 185) rfl)) rfl)
theorem tl_3_5 : u_lay RX4 TX4 5 ∈ xTs := (xTs_in (tin_1 _ (List.mem_of_getElem? (i := 187) rfl)) rfl)
theorem tl_3_6 : u_lay RX4 TX4 6 ∈ xTs := (xTs_in (tin_1 _ (List.mem_of_getElem? (i := 189) rfl)) rfl)
theorem tl_3_7 : u_lay RX4 TX4 7 ∈ xTs := (xTs_in (tin_1 _ (List.mem_of_getElem? (i := 191) rfl)) rfl)
theorem tl_3_8 : u_lay RX4 TX4 8 ∈ xTs := (xTs_in (tin_1 _ (List.mem_of_getElem? (i := 193) rfl)) rfl)
theorem tl_3_9 : u_lay RX4 TX4 9 ∈ xTs := (xTs_in (tin_1 _ (List.mem_of_getElem? (i := 195) rfl)) rfl)
theorem tl_3 : ∀ w ∈ u_ws RX4 TX4 10, w ∈ xTs := by
  show ∀ w ∈ [u_lay RX4 TX4 0, u_lay RX4 TX4 1, u_lay RX4 TX4 2, u_lay RX4 TX4 3, u_lay RX4 TX4 4, u_lay RX4 TX4 5, u_lay RX4 TX4 6, u_lay RX4 TX4 7, u_lay RX4 TX4 8, u_lay RX4 TX4 9], w ∈ xTs
  exact List.forall_mem_cons.mpr ⟨tl_3_0, List.forall_mem_cons.mpr ⟨tl_3_1, List.forall_mem_cons.mpr ⟨tl_3_2, List.forall_mem_cons.mpr ⟨tl_3_3, List.forall_mem_cons.mpr ⟨tl_3_4, List.forall_mem_cons.mpr ⟨tl_3_5, List.forall_mem_cons.mpr ⟨tl_3_6, List.forall_mem_cons.mpr ⟨tl_3_7, List.forall_mem_cons.mpr ⟨tl_3_8, List.forall_mem_cons.mpr ⟨tl_3_9, fun _ h => absurd h List.not_mem_nil⟩⟩⟩⟩⟩⟩⟩⟩⟩⟩
theorem tdc_3 : ∀ k, k < 10 → (TX4 k).1 = RX4 := by decide +kernel
theorem tl_4_0 : u_lay RX5 TX5 0 ∈ xTs := (xTs_in (tin_1 _ (List.mem_of_getElem? (i := 224) rfl)) rfl)
theorem tl_4_1 : u_lay RX5 TX5 1 ∈ xTs := (xTs_in (tin_1 _ (List.mem_of_getElem? (i := 226) rfl)) rfl)
theorem tl_4_2 : u_lay RX5 TX5 2 ∈ xTs := (xTs_in (tin_1 _ (List.mem_of_getElem? (i := 228) rfl)) rfl)
theorem tl_4_3 : u_lay RX5 TX5 3 ∈ xTs := (xTs_in (tin_1 _ (List.mem_of_getElem? (i := 230) rfl)) rfl)
theorem tl_4_4 : u_lay RX5 TX5 4 ∈ xTs := (xTs_in (tin_1 _ (List.mem_of_getElem? (i := 232) rfl)) rfl)
theorem tl_4_5 : u_lay RX5 TX5 5 ∈ xTs := (xTs_in (tin_1 _ (List.mem_of_getElem? (i := 234) rfl)) rfl)
theorem tl_4_6 : u_lay RX5 TX5 6 ∈ xTs := (xTs_in (tin_1 _ (List.mem_of_getElem? (i := 236) rfl)) rfl)
theorem tl_4_7 : u_lay RX5 TX5 7 ∈ xTs := (xTs_in (tin_1 _ (List.mem_of_getElem? (i := 238) rfl)) rfl)
theorem tl_4 : ∀ w ∈ u_ws RX5 TX5 8, w ∈ xTs := by
  show ∀ w ∈ [u_lay RX5 TX5 0, u_lay RX5 TX5 1, u_lay RX5 TX5 2, u_lay RX5 TX5 3, u_lay RX5 TX5 4, u_lay RX5 TX5 5, u_lay RX5 TX5 6, u_lay RX5 TX5 7], w ∈ xTs
  exact List.forall_mem_cons.mpr ⟨tl_4_0, List.forall_mem_cons.mpr ⟨tl_4_1, List.forall_mem_cons.mpr ⟨tl_4_2, List.forall_mem_cons.mpr ⟨tl_4_3, List.forall_mem_cons.mpr ⟨tl_4_4, List.forall_mem_cons.mpr ⟨tl_4_5, List.forall_mem_cons.mpr ⟨tl_4_6, List.forall_mem_cons.mpr ⟨tl_4_7, fun _ h => absurd h List.not_mem_nil⟩⟩⟩⟩⟩⟩⟩⟩
theorem tdc_4 : ∀ k, k < 8 → (TX5 k).1 = RX5 := by decide +kernel
theorem tl_5_0 : u_lay RX6 TX6 0 ∈ xTs := (xTs_in (tin_4 _ (List.mem_of_getElem? (i := 152) rfl)) rfl)
theorem tl_5_1 : u_lay RX6 TX6 1 ∈ xTs := (xTs_in (tin_4 _ (List.mem_of_getElem? (i := 154) rfl)) rfl)
theorem tl_5_2 : u_lay RX6 TX6 2 ∈ xTs := (xTs_in (tin_4 _ (List.mem_of_getElem? (i := 156) rfl)) rfl)
theorem tl_5_3 : u_lay RX6 TX6 3 ∈ xTs := (xTs_in (tin_4 _ (List.mem_of_getElem? (i := 158) rfl)) rfl)
theorem tl_5_4 : u_lay RX6 TX6 4 ∈ xTs := (xTs_in (tin_4 _ (List.mem_of_getElem? (i := 160) rfl)) rfl)
theorem tl_5_5 : u_lay RX6 TX6 5 ∈ xTs := (xTs_in (tin_4 _ (List.mem_of_getElem? (i := 162) rfl)) rfl)
theorem tl_5_6 : u_lay RX6 TX6 6 ∈ xTs := (xTs_in (tin_4 _ (List.mem_of_getElem? (i := 164) rfl)) rfl)
theorem tl_5_7 : u_lay RX6 TX6 7 ∈ xTs := (xTs_in (tin_4 _ (List.mem_of_getElem? (i := 166) rfl)) rfl)
theorem tl_5_8 : u_lay RX6 TX6 8 ∈ xTs := (xTs_in (tin_4 _ (List.mem_of_getElem? (i := 168) rfl)) rfl)
theorem tl_5_9 : u_lay RX6 TX6 9 ∈ xTs := (xTs_in (tin_4 _ (List.mem_of_getElem? (i := 170) rfl)) rfl)
theorem tl_5_10 : u_lay RX6 TX6 10 ∈ xTs := (xTs_in (tin_4 _ (List.mem_of_getElem? (i := 172) rfl)) rfl)
theorem tl_5_11 : u_lay RX6 TX6 11 ∈ xTs := (xTs_in (tin_4 _ (List.mem_of_getElem? (i := 174) rfl)) rfl)
theorem tl_5_12 : u_lay RX6 TX6 12 ∈ xTs := (xTs_in (tin_4 _ (List.mem_of_getElem? (i := 176) rfl)) rfl)
theorem tl_5_13 : u_lay RX6 TX6 13 ∈ xTs := (xTs_in (tin_4 _ (List.mem_of_getElem? (i := 178) rfl)) rfl)
theorem tl_5_14 : u_lay RX6 TX6 14 ∈ xTs := (xTs_in (tin_4 _ (List.mem_of_getElem? (i := 180) rfl)) rfl)
theorem tl_5_15 : u_lay RX6 TX6 15 ∈ xTs := (xTs_in (tin_4 _ (List.mem_of_getElem? (i := 182) rfl)) rfl)
theorem tl_5_16 : u_lay RX6 TX6 16 ∈ xTs := (xTs_in (tin_4 _ (List.mem_of_getElem? (i := 184) rfl)) rfl)
theorem tl_5_17 : u_lay RX6 TX6 17 ∈ xTs := (xTs_in (tin_4 _ (List.mem_of_getElem? (i := 186) rfl)) rfl)
theorem tl_5_18 : u_lay RX6 TX6 18 ∈ xTs := (xTs_in (tin_4 _ (List.mem_of_getElem? (i := 188) rfl)) rfl)
theorem tl_5_19 : u_lay RX6 TX6 19 ∈ xTs := (xTs_in (tin_4 _ (List.mem_of_getElem? (i := 190) rfl)) rfl)
theorem tl_5_20 : u_lay RX6 TX6 20 ∈ xTs := (xTs_in (tin_4 _ (List.mem_of_getElem? (i := 192) rfl)) rfl)
theorem tl_5_21 : u_lay RX6 TX6 21 ∈ xTs := (xTs_in (tin_4 _ (List.mem_of_getElem? (i := 194) rfl)) rfl)
theorem tl_5_22 : u_lay RX6 TX6 22 ∈ xTs := (xTs_in (tin_4 _ (List.mem_of_getElem? (i := 196) rfl)) rfl)
theorem tl_5_23 : u_lay RX6 TX6 23 ∈ xTs := (xTs_in (tin_4 _ (List.mem_of_getElem? (i := 198) rfl)) rfl)
theorem tl_5_24 : u_lay RX6 TX6 24 ∈ xTs := (xTs_in (tin_4 _ (List.mem_of_getElem? (i := 200) rfl)) rfl)
theorem tl_5 : ∀ w ∈ u_ws RX6 TX6 25, w ∈ xTs := by
  show ∀ w ∈ [u_lay RX6 TX6 0, u_lay RX6 TX6 1, u_lay RX6 TX6 2, u_lay RX6 TX6 3, u_lay RX6 TX6 4, u_lay RX6 TX6 5, u_lay RX6 TX6 6, u_lay RX6 TX6 7, u_lay RX6 TX6 8, u_lay RX6 TX6 9, u_lay RX6 TX6 10, u_lay RX6 TX6 11, u_lay RX6 TX6 12, u_lay RX6 TX6 13, u_lay RX6 TX6 14, u_lay RX6 TX6 15, u_lay RX6 TX6 16, u_lay RX6 TX6 17, u_lay RX6 TX6 18, u_lay RX6 TX6 19, u_lay RX6 TX6 20, u_lay RX6 TX6 21, u_lay RX6 TX6 22, u_lay RX6 TX6 23, u_lay RX6 TX6 24], w ∈ xTs
  exact List.forall_mem_cons.mpr ⟨tl_5_0, List.forall_mem_cons.mpr ⟨tl_5_1, List.forall_mem_cons.mpr ⟨tl_5_2, List.forall_mem_cons.mpr ⟨tl_5_3, List.forall_mem_cons.mpr ⟨tl_5_4, List.forall_mem_cons.mpr ⟨tl_5_5, List.forall_mem_cons.mpr ⟨tl_5_6, List.forall_mem_cons.mpr ⟨tl_5_7, List.forall_mem_cons.mpr ⟨tl_5_8, List.forall_mem_cons.mpr ⟨tl_5_9, List.forall_mem_cons.mpr ⟨tl_5_10, List.forall_mem_cons.mpr ⟨tl_5_11, List.forall_mem_cons.mpr ⟨tl_5_12, List.forall_mem_cons.mpr ⟨tl_5_13, List.forall_mem_cons.mpr ⟨tl_5_14, List.forall_mem_cons.mpr ⟨tl_5_15, List.forall_mem_cons.mpr ⟨tl_5_16, List.forall_mem_cons.mpr ⟨tl_5_17, List.forall_mem_cons.mpr ⟨tl_5_18, List.forall_mem_cons.mpr ⟨tl_5_19, List.forall_mem_cons.mpr ⟨tl_5_20, List.forall_mem_cons.mpr ⟨tl_5_21, List.forall_mem_cons.mpr ⟨tl_5_22, List.forall_mem_cons.mpr ⟨tl_5_23, List.forall_mem_cons.mpr ⟨tl_5_24, fun _ h => absurd h List.not_mem_nil⟩⟩⟩⟩⟩⟩⟩⟩⟩⟩⟩⟩⟩⟩⟩⟩⟩⟩⟩⟩⟩⟩⟩⟩⟩
theorem tdc_5 : ∀ k, k < 25 → (TX6 k).1 = RX6 := by decide +kernel
theorem t_F2 : xTF2 := by
  intro ci C T N h
  match ci, h with
  | 0, h => cases h; exact ⟨rfl, tl_0, ⟨tyX1, tyX1_ok⟩, nmX1, tdc_0⟩
  | 1, h => cases h; exact ⟨rfl, tl_1, ⟨tyX2, tyX2_ok⟩, nmX2, tdc_1⟩
  | 2, h => cases h; exact ⟨rfl, tl_2, ⟨tyX3, tyX3_ok⟩, nmX3, tdc_2⟩
  | 3, h => cases h; exact ⟨rfl, tl_3, ⟨tyX4, tyX4_ok⟩, nmX4, tdc_3⟩
  | 4, h => cases h; exact ⟨rfl, tl_4, ⟨tyX5, tyX5_ok⟩, nmX5, tdc_4⟩
  | 5, h => cases h; exact ⟨rfl, tl_5, ⟨tyX6, tyX6_ok⟩, nmX6, tdc_5⟩
  | n + 6, h => simp at h
def Ptf (own : Nat) (e : Nat × Nat × Nat × FieldType × Bool) : Prop := (∃ C T N, vwCl[e.2.1]? = some (C, T, N) ∧ e.2.2.1 < N ∧ Cond.fieldLink (xR own) e.1 (T e.2.2.1).1 (T e.2.2.1).2.1 (T e.2.2.1).2.2.1 ∈ xTs ∧ parseFieldDescriptor (T e.2.2.1).2.2.1 = some e.2.2.2.1 ∧ (T e.2.2.1).2.2.2 = e.2.2.2.2) ∨ (e.2.1 = 100 ∧ ((e.2.2.1 = 0 ∧ Cond.fieldLink (xR own) e.1 RJ0 "value" "[B" ∈ xTs) ∨ (e.2.2.1 = 1 ∧ Cond.fieldLink (xR own) e.1 RJ0 "coder" "B" ∈ xTs)))
theorem tf_0 : ∀ e ∈ xFT.getD 0 [], Ptf 0 e := fun _ h => absurd h List.not_mem_nil
theorem tf_1_0 : Ptf 1 (9, 0, 0, .array .int, true) := Or.inl ⟨RX1, TX1, 16, rfl, by decide, (xTs_in (tin_1 _ (List.mem_of_getElem? (i := 107) rfl)) rfl), by decide +kernel, rfl⟩
theorem tf_1_1 : Ptf 1 (15, 0, 1, .array .int, true) := Or.inl ⟨RX1, TX1, 16, rfl, by decide, (xTs_in (tin_1 _ (List.mem_of_getElem? (i := 108) rfl)) rfl), by decide +kernel, rfl⟩
theorem tf_1_2 : Ptf 1 (18, 0, 2, .array .int, true) := Or.inl ⟨RX1, TX1, 16, rfl, by decide, (xTs_in (tin_1 _ (List.mem_of_getElem? (i := 109) rfl)) rfl), by decide +kernel, rfl⟩
theorem tf_1_3 : Ptf 1 (21, 0, 3, .array .int, true) := Or.inl ⟨RX1, TX1, 16, rfl, by decide, (xTs_in (tin_1 _ (List.mem_of_getElem? (i := 110) rfl)) rfl), by decide +kernel, rfl⟩
theorem tf_1_4 : Ptf 1 (24, 0, 4, .array .int, true) := Or.inl ⟨RX1, TX1, 16, rfl, by decide, (xTs_in (tin_1 _ (List.mem_of_getElem? (i := 111) rfl)) rfl), by decide +kernel, rfl⟩
theorem tf_1_5 : Ptf 1 (27, 0, 5, .array .int, true) := Or.inl ⟨RX1, TX1, 16, rfl, by decide, (xTs_in (tin_1 _ (List.mem_of_getElem? (i := 112) rfl)) rfl), by decide +kernel, rfl⟩
theorem tf_1_6 : Ptf 1 (30, 0, 6, .array .int, true) := Or.inl ⟨RX1, TX1, 16, rfl, by decide, (xTs_in (tin_1 _ (List.mem_of_getElem? (i := 113) rfl)) rfl), by decide +kernel, rfl⟩
theorem tf_1_7 : Ptf 1 (33, 0, 8, .array .int, true) := Or.inl ⟨RX1, TX1, 16, rfl, by decide, (xTs_in (tin_1 _ (List.mem_of_getElem? (i := 115) rfl)) rfl), by decide +kernel, rfl⟩
theorem tf_1_8 : Ptf 1 (36, 0, 9, .array .int, true) := Or.inl ⟨RX1, TX1, 16, rfl, by decide, (xTs_in (tin_1 _ (List.mem_of_getElem? (i := 116) rfl)) rfl), by decide +kernel, rfl⟩
theorem tf_1_9 : Ptf 1 (39, 1, 0, .int, false) := Or.inl ⟨RX2, TX2, 15, rfl, by decide, (xTs_in (tin_1 _ (List.mem_of_getElem? (i := 29) rfl)) rfl), by decide +kernel, rfl⟩
theorem tf_1_10 : Ptf 1 (45, 0, 10, .int, false) := Or.inl ⟨RX1, TX1, 16, rfl, by decide, (xTs_in (tin_1 _ (List.mem_of_getElem? (i := 118) rfl)) rfl), by decide +kernel, rfl⟩
theorem tf_1_11 : Ptf 1 (46, 1, 7, .int, false) := Or.inl ⟨RX2, TX2, 15, rfl, by decide, (xTs_in (tin_1 _ (List.mem_of_getElem? (i := 53) rfl)) rfl), by decide +kernel, rfl⟩
theorem tf_1_12 : Ptf 1 (49, 0, 11, .int, false) := Or.inl ⟨RX1, TX1, 16, rfl, by decide, (xTs_in (tin_1 _ (List.mem_of_getElem? (i := 119) rfl)) rfl), by decide +kernel, rfl⟩
theorem tf_1_13 : Ptf 1 (50, 1, 6, .int, false) := Or.inl ⟨RX2, TX2, 15, rfl, by decide, (xTs_in (tin_1 _ (List.mem_of_getElem? (i := 51) rfl)) rfl), by decide +kernel, rfl⟩
theorem tf_1_14 : Ptf 1 (53, 1, 10, .array .int, true) := Or.inl ⟨RX2, TX2, 15, rfl, by decide, (xTs_in (tin_1 _ (List.mem_of_getElem? (i := 61) rfl)) rfl), by decide +kernel, rfl⟩
theorem tf_1_15 : Ptf 1 (56, 0, 12, .int, false) := Or.inl ⟨RX1, TX1, 16, rfl, by decide, (xTs_in (tin_1 _ (List.mem_of_getElem? (i := 120) rfl)) rfl), by decide +kernel, rfl⟩
theorem tf_1_16 : Ptf 1 (59, 0, 13, .int, false) := Or.inl ⟨RX1, TX1, 16, rfl, by decide, (xTs_in (tin_1 _ (List.mem_of_getElem? (i := 121) rfl)) rfl), by decide +kernel, rfl⟩
theorem tf_1_17 : Ptf 1 (62, 1, 1, .array .int, true) := Or.inl ⟨RX2, TX2, 15, rfl, by decide, (xTs_in (tin_1 _ (List.mem_of_getElem? (i := 34) rfl)) rfl), by decide +kernel, rfl⟩
theorem tf_1_18 : Ptf 1 (69, 1, 2, .array .int, true) := Or.inl ⟨RX2, TX2, 15, rfl, by decide, (xTs_in (tin_1 _ (List.mem_of_getElem? (i := 37) rfl)) rfl), by decide +kernel, rfl⟩
theorem tf_1_19 : Ptf 1 (70, 1, 4, .array .int, true) := Or.inl ⟨RX2, TX2, 15, rfl, by decide, (xTs_in (tin_1 _ (List.mem_of_getElem? (i := 44) rfl)) rfl), by decide +kernel, rfl⟩
theorem tf_1_20 : Ptf 1 (105, 0, 7, .int, false) := Or.inl ⟨RX1, TX1, 16, rfl, by decide, (xTs_in (tin_1 _ (List.mem_of_getElem? (i := 114) rfl)) rfl), by decide +kernel, rfl⟩
theorem tf_1_21 : Ptf 1 (135, 0, 15, .int, false) := Or.inl ⟨RX1, TX1, 16, rfl, by decide, (xTs_in (tin_1 _ (List.mem_of_getElem? (i := 125) rfl)) rfl), by decide +kernel, rfl⟩
theorem tf_1_22 : Ptf 1 (138, 0, 14, .int, false) := Or.inl ⟨RX1, TX1, 16, rfl, by decide, (xTs_in (tin_1 _ (List.mem_of_getElem? (i := 123) rfl)) rfl), by decide +kernel, rfl⟩
theorem tf_1 : ∀ e ∈ xFT.getD 1 [], Ptf 1 e := by
  show ∀ e ∈ [(9, 0, 0, .array .int, true), (15, 0, 1, .array .int, true), (18, 0, 2, .array .int, true), (21, 0, 3, .array .int, true), (24, 0, 4, .array .int, true), (27, 0, 5, .array .int, true), (30, 0, 6, .array .int, true), (33, 0, 8, .array .int, true), (36, 0, 9, .array .int, true), (39, 1, 0, .int, false), (45, 0, 10, .int, false), (46, 1, 7, .int, false), (49, 0, 11, .int, false), (50, 1, 6, .int, false), (53, 1, 10, .array .int, true), (56, 0, 12, .int, false), (59, 0, 13, .int, false), (62, 1, 1, .array .int, true), (69, 1, 2, .array .int, true), (70, 1, 4, .array .int, true), (105, 0, 7, .int, false), (135, 0, 15, .int, false), (138, 0, 14, .int, false)], Ptf 1 e
  exact List.forall_mem_cons.mpr ⟨tf_1_0, List.forall_mem_cons.mpr ⟨tf_1_1, List.forall_mem_cons.mpr ⟨tf_1_2, List.forall_mem_cons.mpr ⟨tf_1_3, List.forall_mem_cons.mpr ⟨tf_1_4, List.forall_mem_cons.mpr ⟨tf_1_5, List.forall_mem_cons.mpr ⟨tf_1_6, List.forall_mem_cons.mpr ⟨tf_1_7, List.forall_mem_cons.mpr ⟨tf_1_8, List.forall_mem_cons.mpr ⟨tf_1_9, List.forall_mem_cons.mpr ⟨tf_1_10, List.forall_mem_cons.mpr ⟨tf_1_11, List.forall_mem_cons.mpr ⟨tf_1_12, List.forall_mem_cons.mpr ⟨tf_1_13, List.forall_mem_cons.mpr ⟨tf_1_14, List.forall_mem_cons.mpr ⟨tf_1_15, List.forall_mem_cons.mpr ⟨tf_1_16, List.forall_mem_cons.mpr ⟨tf_1_17, List.forall_mem_cons.mpr ⟨tf_1_18, List.forall_mem_cons.mpr ⟨tf_1_19, List.forall_mem_cons.mpr ⟨tf_1_20, List.forall_mem_cons.mpr ⟨tf_1_21, List.forall_mem_cons.mpr ⟨tf_1_22, fun _ h => absurd h List.not_mem_nil⟩⟩⟩⟩⟩⟩⟩⟩⟩⟩⟩⟩⟩⟩⟩⟩⟩⟩⟩⟩⟩⟩⟩
theorem tf_2_0 : Ptf 2 (9, 1, 1, .array .int, true) := Or.inl ⟨RX2, TX2, 15, rfl, by decide, (xTs_in (tin_1 _ (List.mem_of_getElem? (i := 33) rfl)) rfl), by decide +kernel, rfl⟩
theorem tf_2_1 : Ptf 2 (15, 1, 2, .array .int, true) := Or.inl ⟨RX2, TX2, 15, rfl, by decide, (xTs_in (tin_1 _ (List.mem_of_getElem? (i := 36) rfl)) rfl), by decide +kernel, rfl⟩
theorem tf_2_2 : Ptf 2 (18, 1, 3, .array .int, true) := Or.inl ⟨RX2, TX2, 15, rfl, by decide, (xTs_in (tin_1 _ (List.mem_of_getElem? (i := 40) rfl)) rfl), by decide +kernel, rfl⟩
theorem tf_2_3 : Ptf 2 (21, 1, 4, .array .int, true) := Or.inl ⟨RX2, TX2, 15, rfl, by decide, (xTs_in (tin_1 _ (List.mem_of_getElem? (i := 43) rfl)) rfl), by decide +kernel, rfl⟩
theorem tf_2_4 : Ptf 2 (24, 1, 5, .array .int, true) := Or.inl ⟨RX2, TX2, 15, rfl, by decide, (xTs_in (tin_1 _ (List.mem_of_getElem? (i := 47) rfl)) rfl), by decide +kernel, rfl⟩
theorem tf_2_5 : Ptf 2 (27, 1, 10, .array .int, true) := Or.inl ⟨RX2, TX2, 15, rfl, by decide, (xTs_in (tin_1 _ (List.mem_of_getElem? (i := 60) rfl)) rfl), by decide +kernel, rfl⟩
theorem tf_2_6 : Ptf 2 (30, 1, 11, .array .int, true) := Or.inl ⟨RX2, TX2, 15, rfl, by decide, (xTs_in (tin_1 _ (List.mem_of_getElem? (i := 63) rfl)) rfl), by decide +kernel, rfl⟩
theorem tf_2_7 : Ptf 2 (33, 1, 12, .array .int, true) := Or.inl ⟨RX2, TX2, 15, rfl, by decide, (xTs_in (tin_1 _ (List.mem_of_getElem? (i := 64) rfl)) rfl), by decide +kernel, rfl⟩
theorem tf_2_8 : Ptf 2 (36, 1, 13, .int, false) := Or.inl ⟨RX2, TX2, 15, rfl, by decide, (xTs_in (tin_1 _ (List.mem_of_getElem? (i := 65) rfl)) rfl), by decide +kernel, rfl⟩
theorem tf_2_9 : Ptf 2 (40, 1, 14, .array .int, true) := Or.inl ⟨RX2, TX2, 15, rfl, by decide, (xTs_in (tin_1 _ (List.mem_of_getElem? (i := 67) rfl)) rfl), by decide +kernel, rfl⟩
theorem tf_2_10 : Ptf 2 (43, 1, 0, .int, false) := Or.inl ⟨RX2, TX2, 15, rfl, by decide, (xTs_in (tin_1 _ (List.mem_of_getElem? (i := 30) rfl)) rfl), by decide +kernel, rfl⟩
theorem tf_2_11 : Ptf 2 (46, 1, 6, .int, false) := Or.inl ⟨RX2, TX2, 15, rfl, by decide, (xTs_in (tin_1 _ (List.mem_of_getElem? (i := 50) rfl)) rfl), by decide +kernel, rfl⟩
theorem tf_2_12 : Ptf 2 (49, 1, 7, .int, false) := Or.inl ⟨RX2, TX2, 15, rfl, by decide, (xTs_in (tin_1 _ (List.mem_of_getElem? (i := 54) rfl)) rfl), by decide +kernel, rfl⟩
theorem tf_2_13 : Ptf 2 (52, 1, 8, .int, false) := Or.inl ⟨RX2, TX2, 15, rfl, by decide, (xTs_in (tin_1 _ (List.mem_of_getElem? (i := 56) rfl)) rfl), by decide +kernel, rfl⟩
theorem tf_2_14 : Ptf 2 (55, 1, 9, .int, false) := Or.inl ⟨RX2, TX2, 15, rfl, by decide, (xTs_in (tin_1 _ (List.mem_of_getElem? (i := 58) rfl)) rfl), by decide +kernel, rfl⟩
theorem tf_2 : ∀ e ∈ xFT.getD 2 [], Ptf 2 e := by
  show ∀ e ∈ [(9, 1, 1, .array .int, true), (15, 1, 2, .array .int, true), (18, 1, 3, .array .int, true), (21, 1, 4, .array .int, true), (24, 1, 5, .array .int, true), (27, 1, 10, .array .int, true), (30, 1, 11, .array .int, true), (33, 1, 12, .array .int, true), (36, 1, 13, .int, false), (40, 1, 14, .array .int, true), (43, 1, 0, .int, false), (46, 1, 6, .int, false), (49, 1, 7, .int, false), (52, 1, 8, .int, false), (55, 1, 9, .int, false)], Ptf 2 e
  exact List.forall_mem_cons.mpr ⟨tf_2_0, List.forall_mem_cons.mpr ⟨tf_2_1, List.forall_mem_cons.mpr ⟨tf_2_2, List.forall_mem_cons.mpr ⟨tf_2_3, List.forall_mem_cons.mpr ⟨tf_2_4, List.forall_mem_cons.mpr ⟨tf_2_5, List.forall_mem_cons.mpr ⟨tf_2_6, List.forall_mem_cons.mpr ⟨tf_2_7, List.forall_mem_cons.mpr ⟨tf_2_8, List.forall_mem_cons.mpr ⟨tf_2_9, List.forall_mem_cons.mpr ⟨tf_2_10, List.forall_mem_cons.mpr ⟨tf_2_11, List.forall_mem_cons.mpr ⟨tf_2_12, List.forall_mem_cons.mpr ⟨tf_2_13, List.forall_mem_cons.mpr ⟨tf_2_14, fun _ h => absurd h List.not_mem_nil⟩⟩⟩⟩⟩⟩⟩⟩⟩⟩⟩⟩⟩⟩⟩
theorem tf_3_0 : Ptf 3 (11, 2, 0, .array .int, true) := Or.inl ⟨RX3, TX3, 3, rfl, by decide, (xTs_in (tin_1 _ (List.mem_of_getElem? (i := 204) rfl)) rfl), by decide +kernel, rfl⟩
theorem tf_3_1 : Ptf 3 (15, 2, 1, .array .int, true) := Or.inl ⟨RX3, TX3, 3, rfl, by decide, (xTs_in (tin_1 _ (List.mem_of_getElem? (i := 206) rfl)) rfl), by decide +kernel, rfl⟩
theorem tf_3_2 : Ptf 3 (18, 2, 2, .array .int, true) := Or.inl ⟨RX3, TX3, 3, rfl, by decide, (xTs_in (tin_1 _ (List.mem_of_getElem? (i := 208) rfl)) rfl), by decide +kernel, rfl⟩
theorem tf_3 : ∀ e ∈ xFT.getD 3 [], Ptf 3 e := by
  show ∀ e ∈ [(11, 2, 0, .array .int, true), (15, 2, 1, .array .int, true), (18, 2, 2, .array .int, true)], Ptf 3 e
  exact List.forall_mem_cons.mpr ⟨tf_3_0, List.forall_mem_cons.mpr ⟨tf_3_1, List.forall_mem_cons.mpr ⟨tf_3_2, fun _ h => absurd h List.not_mem_nil⟩⟩⟩
theorem tf_4_0 : Ptf 4 (11, 3, 0, .array .int, true) := Or.inl ⟨RX4, TX4, 10, rfl, by decide, (xTs_in (tin_1 _ (List.mem_of_getElem? (i := 166) rfl)) rfl), by decide +kernel, rfl⟩
theorem tf_4_1 : Ptf 4 (15, 3, 2, .array .int, true) := Or.inl ⟨RX4, TX4, 10, rfl, by decide, (xTs_in (tin_1 _ (List.mem_of_getElem? (i := 169) rfl)) rfl), by decide +kernel, rfl⟩
theorem tf_4_2 : Ptf 4 (18, 3, 3, .array .int, true) := Or.inl ⟨RX4, TX4, 10, rfl, by decide, (xTs_in (tin_1 _ (List.mem_of_getElem? (i := 170) rfl)) rfl), by decide +kernel, rfl⟩
theorem tf_4_3 : Ptf 4 (21, 3, 4, .array .int, true) := Or.inl ⟨RX4, TX4, 10, rfl, by decide, (xTs_in (tin_1 _ (List.mem_of_getElem? (i := 171) rfl)) rfl), by decide +kernel, rfl⟩
theorem tf_4_4 : Ptf 4 (24, 3, 5, .array .int, true) := Or.inl ⟨RX4, TX4, 10, rfl, by decide, (xTs_in (tin_1 _ (List.mem_of_getElem? (i := 172) rfl)) rfl), by decide +kernel, rfl⟩
theorem tf_4_5 : Ptf 4 (27, 3, 1, .int, false) := Or.inl ⟨RX4, TX4, 10, rfl, by decide, (xTs_in (tin_1 _ (List.mem_of_getElem? (i := 167) rfl)) rfl), by decide +kernel, rfl⟩
theorem tf_4_6 : Ptf 4 (42, 3, 7, .int, false) := Or.inl ⟨RX4, TX4, 10, rfl, by decide, (xTs_in (tin_1 _ (List.mem_of_getElem? (i := 174) rfl)) rfl), by decide +kernel, rfl⟩
theorem tf_4_7 : Ptf 4 (45, 3, 8, .int, false) := Or.inl ⟨RX4, TX4, 10, rfl, by decide, (xTs_in (tin_1 _ (List.mem_of_getElem? (i := 175) rfl)) rfl), by decide +kernel, rfl⟩
theorem tf_4_8 : Ptf 4 (48, 3, 9, .int, false) := Or.inl ⟨RX4, TX4, 10, rfl, by decide, (xTs_in (tin_1 _ (List.mem_of_getElem? (i := 176) rfl)) rfl), by decide +kernel, rfl⟩
theorem tf_4_9 : Ptf 4 (64, 1, 0, .int, false) := Or.inl ⟨RX2, TX2, 15, rfl, by decide, (xTs_in (tin_1 _ (List.mem_of_getElem? (i := 32) rfl)) rfl), by decide +kernel, rfl⟩
theorem tf_4_10 : Ptf 4 (73, 1, 2, .array .int, true) := Or.inl ⟨RX2, TX2, 15, rfl, by decide, (xTs_in (tin_1 _ (List.mem_of_getElem? (i := 39) rfl)) rfl), by decide +kernel, rfl⟩
theorem tf_4_11 : Ptf 4 (80, 1, 3, .array .int, true) := Or.inl ⟨RX2, TX2, 15, rfl, by decide, (xTs_in (tin_1 _ (List.mem_of_getElem? (i := 42) rfl)) rfl), by decide +kernel, rfl⟩
theorem tf_4_12 : Ptf 4 (83, 1, 4, .array .int, true) := Or.inl ⟨RX2, TX2, 15, rfl, by decide, (xTs_in (tin_1 _ (List.mem_of_getElem? (i := 46) rfl)) rfl), by decide +kernel, rfl⟩
theorem tf_4_13 : Ptf 4 (93, 1, 5, .array .int, true) := Or.inl ⟨RX2, TX2, 15, rfl, by decide, (xTs_in (tin_1 _ (List.mem_of_getElem? (i := 49) rfl)) rfl), by decide +kernel, rfl⟩
theorem tf_4_14 : Ptf 4 (96, 3, 6, .int, false) := Or.inl ⟨RX4, TX4, 10, rfl, by decide, (xTs_in (tin_1 _ (List.mem_of_getElem? (i := 173) rfl)) rfl), by decide +kernel, rfl⟩
theorem tf_4 : ∀ e ∈ xFT.getD 4 [], Ptf 4 e := by
  show ∀ e ∈ [(11, 3, 0, .array .int, true), (15, 3, 2, .array .int, true), (18, 3, 3, .array .int, true), (21, 3, 4, .array .int, true), (24, 3, 5, .array .int, true), (27, 3, 1, .int, false), (42, 3, 7, .int, false), (45, 3, 8, .int, false), (48, 3, 9, .int, false), (64, 1, 0, .int, false), (73, 1, 2, .array .int, true), (80, 1, 3, .array .int, true), (83, 1, 4, .array .int, true), (93, 1, 5, .array .int, true), (96, 3, 6, .int, false)], Ptf 4 e
  exact List.forall_mem_cons.mpr ⟨tf_4_0, List.forall_mem_cons.mpr ⟨tf_4_1, List.forall_mem_cons.mpr ⟨tf_4_2, List.forall_mem_cons.mpr ⟨tf_4_3, List.forall_mem_cons.mpr ⟨tf_4_4, List.forall_mem_cons.mpr ⟨tf_4_5, List.forall_mem_cons.mpr ⟨tf_4_6, List.forall_mem_cons.mpr ⟨tf_4_7, List.forall_mem_cons.mpr ⟨tf_4_8, List.forall_mem_cons.mpr ⟨tf_4_9, List.forall_mem_cons.mpr ⟨tf_4_10, List.forall_mem_cons.mpr ⟨tf_4_11, List.forall_mem_cons.mpr ⟨tf_4_12, List.forall_mem_cons.mpr ⟨tf_4_13, List.forall_mem_cons.mpr ⟨tf_4_14, fun _ h => absurd h List.not_mem_nil⟩⟩⟩⟩⟩⟩⟩⟩⟩⟩⟩⟩⟩⟩⟩
theorem tf_5_0 : Ptf 5 (9, 4, 0, .array .int, true) := Or.inl ⟨RX5, TX5, 8, rfl, by decide, (xTs_in (tin_1 _ (List.mem_of_getElem? (i := 216) rfl)) rfl), by decide +kernel, rfl⟩
theorem tf_5_1 : Ptf 5 (16, 4, 1, .object "WhoBowsLast$Scene", true) := Or.inl ⟨RX5, TX5, 8, rfl, by decide, (xTs_in (tin_1 _ (List.mem_of_getElem? (i := 217) rfl)) rfl), by decide +kernel, rfl⟩
theorem tf_5_2 : Ptf 5 (20, 4, 2, .object "WhoBowsLast$Scene", true) := Or.inl ⟨RX5, TX5, 8, rfl, by decide, (xTs_in (tin_1 _ (List.mem_of_getElem? (i := 218) rfl)) rfl), by decide +kernel, rfl⟩
theorem tf_5_3 : Ptf 5 (23, 4, 3, .object "WhoBowsLast$Scene", true) := Or.inl ⟨RX5, TX5, 8, rfl, by decide, (xTs_in (tin_1 _ (List.mem_of_getElem? (i := 219) rfl)) rfl), by decide +kernel, rfl⟩
theorem tf_5_4 : Ptf 5 (29, 4, 4, .object "WhoBowsLast$Orders", true) := Or.inl ⟨RX5, TX5, 8, rfl, by decide, (xTs_in (tin_1 _ (List.mem_of_getElem? (i := 220) rfl)) rfl), by decide +kernel, rfl⟩
theorem tf_5_5 : Ptf 5 (36, 4, 5, .object "WhoBowsLast$Tape", true) := Or.inl ⟨RX5, TX5, 8, rfl, by decide, (xTs_in (tin_1 _ (List.mem_of_getElem? (i := 221) rfl)) rfl), by decide +kernel, rfl⟩
theorem tf_5_6 : Ptf 5 (43, 4, 6, .object "WhoBowsLast$Sheets", true) := Or.inl ⟨RX5, TX5, 8, rfl, by decide, (xTs_in (tin_1 _ (List.mem_of_getElem? (i := 222) rfl)) rfl), by decide +kernel, rfl⟩
theorem tf_5_7 : Ptf 5 (47, 4, 7, .boolean, false) := Or.inl ⟨RX5, TX5, 8, rfl, by decide, (xTs_in (tin_1 _ (List.mem_of_getElem? (i := 223) rfl)) rfl), by decide +kernel, rfl⟩
theorem tf_5_8 : Ptf 5 (59, 1, 0, .int, false) := Or.inl ⟨RX2, TX2, 15, rfl, by decide, (xTs_in (tin_1 _ (List.mem_of_getElem? (i := 31) rfl)) rfl), by decide +kernel, rfl⟩
theorem tf_5_9 : Ptf 5 (70, 1, 1, .array .int, true) := Or.inl ⟨RX2, TX2, 15, rfl, by decide, (xTs_in (tin_1 _ (List.mem_of_getElem? (i := 35) rfl)) rfl), by decide +kernel, rfl⟩
theorem tf_5_10 : Ptf 5 (73, 1, 2, .array .int, true) := Or.inl ⟨RX2, TX2, 15, rfl, by decide, (xTs_in (tin_1 _ (List.mem_of_getElem? (i := 38) rfl)) rfl), by decide +kernel, rfl⟩
theorem tf_5_11 : Ptf 5 (76, 1, 3, .array .int, true) := Or.inl ⟨RX2, TX2, 15, rfl, by decide, (xTs_in (tin_1 _ (List.mem_of_getElem? (i := 41) rfl)) rfl), by decide +kernel, rfl⟩
theorem tf_5_12 : Ptf 5 (79, 1, 4, .array .int, true) := Or.inl ⟨RX2, TX2, 15, rfl, by decide, (xTs_in (tin_1 _ (List.mem_of_getElem? (i := 45) rfl)) rfl), by decide +kernel, rfl⟩
theorem tf_5_13 : Ptf 5 (107, 1, 5, .array .int, true) := Or.inl ⟨RX2, TX2, 15, rfl, by decide, (xTs_in (tin_1 _ (List.mem_of_getElem? (i := 48) rfl)) rfl), by decide +kernel, rfl⟩
theorem tf_5_14 : Ptf 5 (110, 1, 7, .int, false) := Or.inl ⟨RX2, TX2, 15, rfl, by decide, (xTs_in (tin_1 _ (List.mem_of_getElem? (i := 55) rfl)) rfl), by decide +kernel, rfl⟩
theorem tf_5_15 : Ptf 5 (119, 1, 6, .int, false) := Or.inl ⟨RX2, TX2, 15, rfl, by decide, (xTs_in (tin_1 _ (List.mem_of_getElem? (i := 52) rfl)) rfl), by decide +kernel, rfl⟩
theorem tf_5_16 : Ptf 5 (128, 1, 10, .array .int, true) := Or.inl ⟨RX2, TX2, 15, rfl, by decide, (xTs_in (tin_1 _ (List.mem_of_getElem? (i := 62) rfl)) rfl), by decide +kernel, rfl⟩
theorem tf_5_17 : Ptf 5 (131, 1, 8, .int, false) := Or.inl ⟨RX2, TX2, 15, rfl, by decide, (xTs_in (tin_1 _ (List.mem_of_getElem? (i := 57) rfl)) rfl), by decide +kernel, rfl⟩
theorem tf_5_18 : Ptf 5 (134, 1, 9, .int, false) := Or.inl ⟨RX2, TX2, 15, rfl, by decide, (xTs_in (tin_1 _ (List.mem_of_getElem? (i := 59) rfl)) rfl), by decide +kernel, rfl⟩
theorem tf_5_19 : Ptf 5 (161, 0, 9, .array .int, true) := Or.inl ⟨RX1, TX1, 16, rfl, by decide, (xTs_in (tin_1 _ (List.mem_of_getElem? (i := 117) rfl)) rfl), by decide +kernel, rfl⟩
theorem tf_5_20 : Ptf 5 (179, 0, 13, .int, false) := Or.inl ⟨RX1, TX1, 16, rfl, by decide, (xTs_in (tin_1 _ (List.mem_of_getElem? (i := 122) rfl)) rfl), by decide +kernel, rfl⟩
theorem tf_5_21 : Ptf 5 (194, 0, 14, .int, false) := Or.inl ⟨RX1, TX1, 16, rfl, by decide, (xTs_in (tin_1 _ (List.mem_of_getElem? (i := 124) rfl)) rfl), by decide +kernel, rfl⟩
theorem tf_5_22 : Ptf 5 (197, 0, 15, .int, false) := Or.inl ⟨RX1, TX1, 16, rfl, by decide, (xTs_in (tin_1 _ (List.mem_of_getElem? (i := 126) rfl)) rfl), by decide +kernel, rfl⟩
theorem tf_5_23 : Ptf 5 (231, 1, 13, .int, false) := Or.inl ⟨RX2, TX2, 15, rfl, by decide, (xTs_in (tin_1 _ (List.mem_of_getElem? (i := 66) rfl)) rfl), by decide +kernel, rfl⟩
theorem tf_5_24 : Ptf 5 (249, 1, 14, .array .int, true) := Or.inl ⟨RX2, TX2, 15, rfl, by decide, (xTs_in (tin_1 _ (List.mem_of_getElem? (i := 68) rfl)) rfl), by decide +kernel, rfl⟩
theorem tf_5_25 : Ptf 5 (264, 2, 1, .array .int, true) := Or.inl ⟨RX3, TX3, 3, rfl, by decide, (xTs_in (tin_1 _ (List.mem_of_getElem? (i := 207) rfl)) rfl), by decide +kernel, rfl⟩
theorem tf_5_26 : Ptf 5 (271, 2, 0, .array .int, true) := Or.inl ⟨RX3, TX3, 3, rfl, by decide, (xTs_in (tin_1 _ (List.mem_of_getElem? (i := 205) rfl)) rfl), by decide +kernel, rfl⟩
theorem tf_5_27 : Ptf 5 (298, 3, 1, .int, false) := Or.inl ⟨RX4, TX4, 10, rfl, by decide, (xTs_in (tin_1 _ (List.mem_of_getElem? (i := 168) rfl)) rfl), by decide +kernel, rfl⟩
theorem tf_5 : ∀ e ∈ xFT.getD 5 [], Ptf 5 e := by
  show ∀ e ∈ [(9, 4, 0, .array .int, true), (16, 4, 1, .object "WhoBowsLast$Scene", true), (20, 4, 2, .object "WhoBowsLast$Scene", true), (23, 4, 3, .object "WhoBowsLast$Scene", true), (29, 4, 4, .object "WhoBowsLast$Orders", true), (36, 4, 5, .object "WhoBowsLast$Tape", true), (43, 4, 6, .object "WhoBowsLast$Sheets", true), (47, 4, 7, .boolean, false), (59, 1, 0, .int, false), (70, 1, 1, .array .int, true), (73, 1, 2, .array .int, true), (76, 1, 3, .array .int, true), (79, 1, 4, .array .int, true), (107, 1, 5, .array .int, true), (110, 1, 7, .int, false), (119, 1, 6, .int, false), (128, 1, 10, .array .int, true), (131, 1, 8, .int, false), (134, 1, 9, .int, false), (161, 0, 9, .array .int, true), (179, 0, 13, .int, false), (194, 0, 14, .int, false), (197, 0, 15, .int, false), (231, 1, 13, .int, false), (249, 1, 14, .array .int, true), (264, 2, 1, .array .int, true), (271, 2, 0, .array .int, true), (298, 3, 1, .int, false)], Ptf 5 e
  exact List.forall_mem_cons.mpr ⟨tf_5_0, List.forall_mem_cons.mpr ⟨tf_5_1, List.forall_mem_cons.mpr ⟨tf_5_2, List.forall_mem_cons.mpr ⟨tf_5_3, List.forall_mem_cons.mpr ⟨tf_5_4, List.forall_mem_cons.mpr ⟨tf_5_5, List.forall_mem_cons.mpr ⟨tf_5_6, List.forall_mem_cons.mpr ⟨tf_5_7, List.forall_mem_cons.mpr ⟨tf_5_8, List.forall_mem_cons.mpr ⟨tf_5_9, List.forall_mem_cons.mpr ⟨tf_5_10, List.forall_mem_cons.mpr ⟨tf_5_11, List.forall_mem_cons.mpr ⟨tf_5_12, List.forall_mem_cons.mpr ⟨tf_5_13, List.forall_mem_cons.mpr ⟨tf_5_14, List.forall_mem_cons.mpr ⟨tf_5_15, List.forall_mem_cons.mpr ⟨tf_5_16, List.forall_mem_cons.mpr ⟨tf_5_17, List.forall_mem_cons.mpr ⟨tf_5_18, List.forall_mem_cons.mpr ⟨tf_5_19, List.forall_mem_cons.mpr ⟨tf_5_20, List.forall_mem_cons.mpr ⟨tf_5_21, List.forall_mem_cons.mpr ⟨tf_5_22, List.forall_mem_cons.mpr ⟨tf_5_23, List.forall_mem_cons.mpr ⟨tf_5_24, List.forall_mem_cons.mpr ⟨tf_5_25, List.forall_mem_cons.mpr ⟨tf_5_26, List.forall_mem_cons.mpr ⟨tf_5_27, fun _ h => absurd h List.not_mem_nil⟩⟩⟩⟩⟩⟩⟩⟩⟩⟩⟩⟩⟩⟩⟩⟩⟩⟩⟩⟩⟩⟩⟩⟩⟩⟩⟩⟩
theorem tf_6_0 : Ptf 6 (9, 5, 0, .array .int, true) := Or.inl ⟨RX6, TX6, 25, rfl, by decide, (xTs_in (tin_4 _ (List.mem_of_getElem? (i := 127) rfl)) rfl), by decide +kernel, rfl⟩
theorem tf_6_1 : Ptf 6 (13, 5, 1, .array .int, true) := Or.inl ⟨RX6, TX6, 25, rfl, by decide, (xTs_in (tin_4 _ (List.mem_of_getElem? (i := 128) rfl)) rfl), by decide +kernel, rfl⟩
theorem tf_6_2 : Ptf 6 (16, 5, 2, .array .int, true) := Or.inl ⟨RX6, TX6, 25, rfl, by decide, (xTs_in (tin_4 _ (List.mem_of_getElem? (i := 129) rfl)) rfl), by decide +kernel, rfl⟩
theorem tf_6_3 : Ptf 6 (19, 5, 4, .array .int, true) := Or.inl ⟨RX6, TX6, 25, rfl, by decide, (xTs_in (tin_4 _ (List.mem_of_getElem? (i := 131) rfl)) rfl), by decide +kernel, rfl⟩
theorem tf_6_4 : Ptf 6 (22, 5, 5, .array .int, true) := Or.inl ⟨RX6, TX6, 25, rfl, by decide, (xTs_in (tin_4 _ (List.mem_of_getElem? (i := 132) rfl)) rfl), by decide +kernel, rfl⟩
theorem tf_6_5 : Ptf 6 (25, 5, 6, .array .int, true) := Or.inl ⟨RX6, TX6, 25, rfl, by decide, (xTs_in (tin_4 _ (List.mem_of_getElem? (i := 133) rfl)) rfl), by decide +kernel, rfl⟩
theorem tf_6_6 : Ptf 6 (28, 5, 8, .array .int, true) := Or.inl ⟨RX6, TX6, 25, rfl, by decide, (xTs_in (tin_4 _ (List.mem_of_getElem? (i := 135) rfl)) rfl), by decide +kernel, rfl⟩
theorem tf_6_7 : Ptf 6 (31, 5, 9, .array .int, true) := Or.inl ⟨RX6, TX6, 25, rfl, by decide, (xTs_in (tin_4 _ (List.mem_of_getElem? (i := 136) rfl)) rfl), by decide +kernel, rfl⟩
theorem tf_6_8 : Ptf 6 (34, 5, 11, .array .int, true) := Or.inl ⟨RX6, TX6, 25, rfl, by decide, (xTs_in (tin_4 _ (List.mem_of_getElem? (i := 138) rfl)) rfl), by decide +kernel, rfl⟩
theorem tf_6_9 : Ptf 6 (37, 5, 17, .array .char, true) := Or.inl ⟨RX6, TX6, 25, rfl, by decide, (xTs_in (tin_4 _ (List.mem_of_getElem? (i := 144) rfl)) rfl), by decide +kernel, rfl⟩
theorem tf_6_10 : Ptf 6 (41, 5, 18, .array .char, true) := Or.inl ⟨RX6, TX6, 25, rfl, by decide, (xTs_in (tin_4 _ (List.mem_of_getElem? (i := 145) rfl)) rfl), by decide +kernel, rfl⟩
theorem tf_6_11 : Ptf 6 (44, 5, 19, .array .char, true) := Or.inl ⟨RX6, TX6, 25, rfl, by decide, (xTs_in (tin_4 _ (List.mem_of_getElem? (i := 146) rfl)) rfl), by decide +kernel, rfl⟩
theorem tf_6_12 : Ptf 6 (47, 5, 20, .array .int, true) := Or.inl ⟨RX6, TX6, 25, rfl, by decide, (xTs_in (tin_4 _ (List.mem_of_getElem? (i := 147) rfl)) rfl), by decide +kernel, rfl⟩
theorem tf_6_13 : Ptf 6 (50, 5, 21, .array .int, true) := Or.inl ⟨RX6, TX6, 25, rfl, by decide, (xTs_in (tin_4 _ (List.mem_of_getElem? (i := 148) rfl)) rfl), by decide +kernel, rfl⟩
theorem tf_6_14 : Ptf 6 (53, 5, 22, .array .int, true) := Or.inl ⟨RX6, TX6, 25, rfl, by decide, (xTs_in (tin_4 _ (List.mem_of_getElem? (i := 149) rfl)) rfl), by decide +kernel, rfl⟩
theorem tf_6_15 : Ptf 6 (56, 5, 23, .array .int, true) := Or.inl ⟨RX6, TX6, 25, rfl, by decide, (xTs_in (tin_4 _ (List.mem_of_getElem? (i := 150) rfl)) rfl), by decide +kernel, rfl⟩
theorem tf_6_16 : Ptf 6 (142, 5, 7, .int, false) := Or.inl ⟨RX6, TX6, 25, rfl, by decide, (xTs_in (tin_4 _ (List.mem_of_getElem? (i := 134) rfl)) rfl), by decide +kernel, rfl⟩
theorem tf_6_17 : Ptf 6 (158, 5, 10, .int, false) := Or.inl ⟨RX6, TX6, 25, rfl, by decide, (xTs_in (tin_4 _ (List.mem_of_getElem? (i := 137) rfl)) rfl), by decide +kernel, rfl⟩
theorem tf_6_18 : Ptf 6 (183, 5, 12, .int, false) := Or.inl ⟨RX6, TX6, 25, rfl, by decide, (xTs_in (tin_4 _ (List.mem_of_getElem? (i := 139) rfl)) rfl), by decide +kernel, rfl⟩
theorem tf_6_19 : Ptf 6 (186, 5, 15, .int, false) := Or.inl ⟨RX6, TX6, 25, rfl, by decide, (xTs_in (tin_4 _ (List.mem_of_getElem? (i := 142) rfl)) rfl), by decide +kernel, rfl⟩
theorem tf_6_20 : Ptf 6 (189, 5, 14, .int, false) := Or.inl ⟨RX6, TX6, 25, rfl, by decide, (xTs_in (tin_4 _ (List.mem_of_getElem? (i := 141) rfl)) rfl), by decide +kernel, rfl⟩
theorem tf_6_21 : Ptf 6 (192, 5, 16, .long, false) := Or.inl ⟨RX6, TX6, 25, rfl, by decide, (xTs_in (tin_4 _ (List.mem_of_getElem? (i := 143) rfl)) rfl), by decide +kernel, rfl⟩
theorem tf_6_22 : Ptf 6 (196, 5, 13, .int, false) := Or.inl ⟨RX6, TX6, 25, rfl, by decide, (xTs_in (tin_4 _ (List.mem_of_getElem? (i := 140) rfl)) rfl), by decide +kernel, rfl⟩
theorem tf_6_23 : Ptf 6 (253, 5, 24, .int, false) := Or.inl ⟨RX6, TX6, 25, rfl, by decide, (xTs_in (tin_4 _ (List.mem_of_getElem? (i := 151) rfl)) rfl), by decide +kernel, rfl⟩
theorem tf_6_24 : Ptf 6 (259, 5, 3, .boolean, false) := Or.inl ⟨RX6, TX6, 25, rfl, by decide, (xTs_in (tin_4 _ (List.mem_of_getElem? (i := 130) rfl)) rfl), by decide +kernel, rfl⟩
theorem tf_6 : ∀ e ∈ xFT.getD 6 [], Ptf 6 e := by
  show ∀ e ∈ [(9, 5, 0, .array .int, true), (13, 5, 1, .array .int, true), (16, 5, 2, .array .int, true), (19, 5, 4, .array .int, true), (22, 5, 5, .array .int, true), (25, 5, 6, .array .int, true), (28, 5, 8, .array .int, true), (31, 5, 9, .array .int, true), (34, 5, 11, .array .int, true), (37, 5, 17, .array .char, true), (41, 5, 18, .array .char, true), (44, 5, 19, .array .char, true), (47, 5, 20, .array .int, true), (50, 5, 21, .array .int, true), (53, 5, 22, .array .int, true), (56, 5, 23, .array .int, true), (142, 5, 7, .int, false), (158, 5, 10, .int, false), (183, 5, 12, .int, false), (186, 5, 15, .int, false), (189, 5, 14, .int, false), (192, 5, 16, .long, false), (196, 5, 13, .int, false), (253, 5, 24, .int, false), (259, 5, 3, .boolean, false)], Ptf 6 e
  exact List.forall_mem_cons.mpr ⟨tf_6_0, List.forall_mem_cons.mpr ⟨tf_6_1, List.forall_mem_cons.mpr ⟨tf_6_2, List.forall_mem_cons.mpr ⟨tf_6_3, List.forall_mem_cons.mpr ⟨tf_6_4, List.forall_mem_cons.mpr ⟨tf_6_5, List.forall_mem_cons.mpr ⟨tf_6_6, List.forall_mem_cons.mpr ⟨tf_6_7, List.forall_mem_cons.mpr ⟨tf_6_8, List.forall_mem_cons.mpr ⟨tf_6_9, List.forall_mem_cons.mpr ⟨tf_6_10, List.forall_mem_cons.mpr ⟨tf_6_11, List.forall_mem_cons.mpr ⟨tf_6_12, List.forall_mem_cons.mpr ⟨tf_6_13, List.forall_mem_cons.mpr ⟨tf_6_14, List.forall_mem_cons.mpr ⟨tf_6_15, List.forall_mem_cons.mpr ⟨tf_6_16, List.forall_mem_cons.mpr ⟨tf_6_17, List.forall_mem_cons.mpr ⟨tf_6_18, List.forall_mem_cons.mpr ⟨tf_6_19, List.forall_mem_cons.mpr ⟨tf_6_20, List.forall_mem_cons.mpr ⟨tf_6_21, List.forall_mem_cons.mpr ⟨tf_6_22, List.forall_mem_cons.mpr ⟨tf_6_23, List.forall_mem_cons.mpr ⟨tf_6_24, fun _ h => absurd h List.not_mem_nil⟩⟩⟩⟩⟩⟩⟩⟩⟩⟩⟩⟩⟩⟩⟩⟩⟩⟩⟩⟩⟩⟩⟩⟩⟩
theorem tf_7 : ∀ e ∈ xFT.getD 7 [], Ptf 7 e := fun _ h => absurd h List.not_mem_nil
theorem tf_8 : ∀ e ∈ xFT.getD 8 [], Ptf 8 e := fun _ h => absurd h List.not_mem_nil
theorem tf_9 : ∀ e ∈ xFT.getD 9 [], Ptf 9 e := fun _ h => absurd h List.not_mem_nil
theorem tf_10_0 : Ptf 10 (9, 100, 0, .int, true) := Or.inr ⟨rfl, Or.inl ⟨rfl, (xTs_in (tin_6 _ (List.mem_of_getElem? (i := 105) rfl)) rfl)⟩⟩
theorem tf_10_1 : Ptf 10 (15, 100, 1, .int, true) := Or.inr ⟨rfl, Or.inr ⟨rfl, (xTs_in (tin_6 _ (List.mem_of_getElem? (i := 106) rfl)) rfl)⟩⟩
theorem tf_10 : ∀ e ∈ xFT.getD 10 [], Ptf 10 e := by
  show ∀ e ∈ [(9, 100, 0, .int, true), (15, 100, 1, .int, true)], Ptf 10 e
  exact List.forall_mem_cons.mpr ⟨tf_10_0, List.forall_mem_cons.mpr ⟨tf_10_1, fun _ h => absurd h List.not_mem_nil⟩⟩
theorem tf_11 : ∀ e ∈ xFT.getD 11 [], Ptf 11 e := fun _ h => absurd h List.not_mem_nil
theorem tf_12 : ∀ e ∈ xFT.getD 12 [], Ptf 12 e := fun _ h => absurd h List.not_mem_nil
theorem tf_all : ∀ (own : Nat) e, e ∈ xFT.getD own [] → Ptf own e := by
  intro own e h
  match own, h with
  | 0, h => exact tf_0 e h
  | 1, h => exact tf_1 e h
  | 2, h => exact tf_2 e h
  | 3, h => exact tf_3 e h
  | 4, h => exact tf_4 e h
  | 5, h => exact tf_5 e h
  | 6, h => exact tf_6 e h
  | 7, h => exact tf_7 e h
  | 8, h => exact tf_8 e h
  | 9, h => exact tf_9 e h
  | 10, h => exact tf_10 e h
  | 11, h => exact tf_11 e h
  | 12, h => exact tf_12 e h
  | n + 13, h => exact absurd h List.not_mem_nil
theorem t_F1 : xTF1 := fun own idx ci k ty fin h => tf_all own _ (xfind_mem h)
def Ptk (own : Nat) (e : Nat × Value) : Prop := (∃ x, e.2 = .int x ∧ Cond.constant (xR own) e.1 x ∈ xTs) ∨ (∃ x, e.2 = .long x ∧ Cond.constantLong (xR own) e.1 x ∈ xTs) ∨ (∃ w, e.2 = .retAddr w ∧ w < 16 ∧ own = 4 ∧ xsix.getD w 0 = e.1)
theorem tk_0 : ∀ e ∈ xKT.getD 0 [], Ptk 0 e := fun _ h => absurd h List.not_mem_nil
theorem tk_1_0 : Ptk 1 (108, .int (-2147483648)) := Or.inl ⟨_, rfl, (xTs_in (tin_2 _ (List.mem_of_getElem? (i := 172) rfl)) rfl)⟩
theorem tk_1_1 : Ptk 1 (127, .int 2147483647) := Or.inl ⟨_, rfl, (xTs_in (tin_3 _ (List.mem_of_getElem? (i := 11) rfl)) rfl)⟩
theorem tk_1 : ∀ e ∈ xKT.getD 1 [], Ptk 1 e := by
  show ∀ e ∈ [(108, .int (-2147483648)), (127, .int 2147483647)], Ptk 1 e
  exact List.forall_mem_cons.mpr ⟨tk_1_0, List.forall_mem_cons.mpr ⟨tk_1_1, fun _ h => absurd h List.not_mem_nil⟩⟩
theorem tk_2_0 : Ptk 2 (97, .int 1103515245) := Or.inl ⟨_, rfl, (xTs_in (tin_3 _ (List.mem_of_getElem? (i := 87) rfl)) rfl)⟩
theorem tk_2 : ∀ e ∈ xKT.getD 2 [], Ptk 2 e := by
  show ∀ e ∈ [(97, .int 1103515245)], Ptk 2 e
  exact List.forall_mem_cons.mpr ⟨tk_2_0, fun _ h => absurd h List.not_mem_nil⟩
theorem tk_3 : ∀ e ∈ xKT.getD 3 [], Ptk 3 e := fun _ h => absurd h List.not_mem_nil
theorem tk_4_0 : Ptk 4 (135, .retAddr 0) := Or.inr (Or.inr ⟨_, rfl, by decide, rfl, rfl⟩)
theorem tk_4_1 : Ptk 4 (137, .retAddr 1) := Or.inr (Or.inr ⟨_, rfl, by decide, rfl, rfl⟩)
theorem tk_4_2 : Ptk 4 (139, .retAddr 2) := Or.inr (Or.inr ⟨_, rfl, by decide, rfl, rfl⟩)
theorem tk_4_3 : Ptk 4 (141, .retAddr 3) := Or.inr (Or.inr ⟨_, rfl, by decide, rfl, rfl⟩)
theorem tk_4_4 : Ptk 4 (143, .retAddr 4) := Or.inr (Or.inr ⟨_, rfl, by decide, rfl, rfl⟩)
theorem tk_4_5 : Ptk 4 (145, .retAddr 5) := Or.inr (Or.inr ⟨_, rfl, by decide, rfl, rfl⟩)
theorem tk_4_6 : Ptk 4 (147, .retAddr 6) := Or.inr (Or.inr ⟨_, rfl, by decide, rfl, rfl⟩)
theorem tk_4_7 : Ptk 4 (149, .retAddr 7) := Or.inr (Or.inr ⟨_, rfl, by decide, rfl, rfl⟩)
theorem tk_4_8 : Ptk 4 (151, .retAddr 8) := Or.inr (Or.inr ⟨_, rfl, by decide, rfl, rfl⟩)
theorem tk_4_9 : Ptk 4 (153, .retAddr 9) := Or.inr (Or.inr ⟨_, rfl, by decide, rfl, rfl⟩)
theorem tk_4_10 : Ptk 4 (155, .retAddr 10) := Or.inr (Or.inr ⟨_, rfl, by decide, rfl, rfl⟩)
theorem tk_4_11 : Ptk 4 (157, .retAddr 11) := Or.inr (Or.inr ⟨_, rfl, by decide, rfl, rfl⟩)
theorem tk_4_12 : Ptk 4 (159, .retAddr 12) := Or.inr (Or.inr ⟨_, rfl, by decide, rfl, rfl⟩)
theorem tk_4_13 : Ptk 4 (161, .retAddr 13) := Or.inr (Or.inr ⟨_, rfl, by decide, rfl, rfl⟩)
theorem tk_4_14 : Ptk 4 (163, .retAddr 14) := Or.inr (Or.inr ⟨_, rfl, by decide, rfl, rfl⟩)
theorem tk_4_15 : Ptk 4 (164, .retAddr 15) := Or.inr (Or.inr ⟨_, rfl, by decide, rfl, rfl⟩)
theorem tk_4 : ∀ e ∈ xKT.getD 4 [], Ptk 4 e := by
  show ∀ e ∈ [(135, .retAddr 0), (137, .retAddr 1), (139, .retAddr 2), (141, .retAddr 3), (143, .retAddr 4), (145, .retAddr 5), (147, .retAddr 6), (149, .retAddr 7), (151, .retAddr 8), (153, .retAddr 9), (155, .retAddr 10), (157, .retAddr 11), (159, .retAddr 12), (161, .retAddr 13), (163, .retAddr 14), (164, .retAddr 15)], Ptk 4 e
  exact List.forall_mem_cons.mpr ⟨tk_4_0, List.forall_mem_cons.mpr ⟨tk_4_1, List.forall_mem_cons.mpr ⟨tk_4_2, List.forall_mem_cons.mpr ⟨tk_4_3, List.forall_mem_cons.mpr ⟨tk_4_4, List.forall_mem_cons.mpr ⟨tk_4_5, List.forall_mem_cons.mpr ⟨tk_4_6, List.forall_mem_cons.mpr ⟨tk_4_7, List.forall_mem_cons.mpr ⟨tk_4_8, List.forall_mem_cons.mpr ⟨tk_4_9, List.forall_mem_cons.mpr ⟨tk_4_10, List.forall_mem_cons.mpr ⟨tk_4_11, List.forall_mem_cons.mpr ⟨tk_4_12, List.forall_mem_cons.mpr ⟨tk_4_13, List.forall_mem_cons.mpr ⟨tk_4_14, List.forall_mem_cons.mpr ⟨tk_4_15, fun _ h => absurd h List.not_mem_nil⟩⟩⟩⟩⟩⟩⟩⟩⟩⟩⟩⟩⟩⟩⟩⟩
theorem tk_5_0 : Ptk 5 (304, .int (-1000001)) := Or.inl ⟨_, rfl, (xTs_in (tin_2 _ (List.mem_of_getElem? (i := 12) rfl)) rfl)⟩
theorem tk_5_1 : Ptk 5 (213, .long 2) := Or.inr (Or.inl ⟨_, rfl, (xTs_in (tin_3 _ (List.mem_of_getElem? (i := 73) rfl)) rfl)⟩)
theorem tk_5_2 : Ptk 5 (215, .long 5) := Or.inr (Or.inl ⟨_, rfl, (xTs_in (tin_3 _ (List.mem_of_getElem? (i := 74) rfl)) rfl)⟩)
theorem tk_5_3 : Ptk 5 (305, .long 10) := Or.inr (Or.inl ⟨_, rfl, (xTs_in (tin_3 _ (List.mem_of_getElem? (i := 69) rfl)) rfl)⟩)
theorem tk_5 : ∀ e ∈ xKT.getD 5 [], Ptk 5 e := by
  show ∀ e ∈ [(304, .int (-1000001)), (213, .long 2), (215, .long 5), (305, .long 10)], Ptk 5 e
  exact List.forall_mem_cons.mpr ⟨tk_5_0, List.forall_mem_cons.mpr ⟨tk_5_1, List.forall_mem_cons.mpr ⟨tk_5_2, List.forall_mem_cons.mpr ⟨tk_5_3, fun _ h => absurd h List.not_mem_nil⟩⟩⟩⟩
theorem tk_6_0 : Ptk 6 (59, .int (-1000001)) := Or.inl ⟨_, rfl, (xTs_in (tin_4 _ (List.mem_of_getElem? (i := 215) rfl)) rfl)⟩
theorem tk_6_1 : Ptk 6 (135, .int (-99999999)) := Or.inl ⟨_, rfl, (xTs_in (tin_5 _ (List.mem_of_getElem? (i := 100) rfl)) rfl)⟩
theorem tk_6_2 : Ptk 6 (179, .int 1103515245) := Or.inl ⟨_, rfl, (xTs_in (tin_5 _ (List.mem_of_getElem? (i := 212) rfl)) rfl)⟩
theorem tk_6_3 : Ptk 6 (167, .long 10) := Or.inr (Or.inl ⟨_, rfl, (xTs_in (tin_5 _ (List.mem_of_getElem? (i := 192) rfl)) rfl)⟩)
theorem tk_6_4 : Ptk 6 (202, .long 9999999999999) := Or.inr (Or.inl ⟨_, rfl, (xTs_in (tin_6 _ (List.mem_of_getElem? (i := 4) rfl)) rfl)⟩)
theorem tk_6_5 : Ptk 6 (204, .long 27) := Or.inr (Or.inl ⟨_, rfl, (xTs_in (tin_6 _ (List.mem_of_getElem? (i := 5) rfl)) rfl)⟩)
theorem tk_6_6 : Ptk 6 (206, .long 96) := Or.inr (Or.inl ⟨_, rfl, (xTs_in (tin_6 _ (List.mem_of_getElem? (i := 6) rfl)) rfl)⟩)
theorem tk_6_7 : Ptk 6 (211, .long 999) := Or.inr (Or.inl ⟨_, rfl, (xTs_in (tin_6 _ (List.mem_of_getElem? (i := 10) rfl)) rfl)⟩)
theorem tk_6_8 : Ptk 6 (213, .long 48) := Or.inr (Or.inl ⟨_, rfl, (xTs_in (tin_6 _ (List.mem_of_getElem? (i := 11) rfl)) rfl)⟩)
theorem tk_6 : ∀ e ∈ xKT.getD 6 [], Ptk 6 e := by
  show ∀ e ∈ [(59, .int (-1000001)), (135, .int (-99999999)), (179, .int 1103515245), (167, .long 10), (202, .long 9999999999999), (204, .long 27), (206, .long 96), (211, .long 999), (213, .long 48)], Ptk 6 e
  exact List.forall_mem_cons.mpr ⟨tk_6_0, List.forall_mem_cons.mpr ⟨tk_6_1, List.forall_mem_cons.mpr ⟨tk_6_2, List.forall_mem_cons.mpr ⟨tk_6_3, List.forall_mem_cons.mpr ⟨tk_6_4, List.forall_mem_cons.mpr ⟨tk_6_5, List.forall_mem_cons.mpr ⟨tk_6_6, List.forall_mem_cons.mpr ⟨tk_6_7, List.forall_mem_cons.mpr ⟨tk_6_8, fun _ h => absurd h List.not_mem_nil⟩⟩⟩⟩⟩⟩⟩⟩⟩
theorem tk_7 : ∀ e ∈ xKT.getD 7 [], Ptk 7 e := fun _ h => absurd h List.not_mem_nil
theorem tk_8_0 : Ptk 8 (265, .int 1431655765) := Or.inl ⟨_, rfl, (xTs_in (tin_2 _ (List.mem_of_getElem? (i := 185) rfl)) rfl)⟩
theorem tk_8_1 : Ptk 8 (266, .int 858993459) := Or.inl ⟨_, rfl, (xTs_in (tin_2 _ (List.mem_of_getElem? (i := 186) rfl)) rfl)⟩
theorem tk_8_2 : Ptk 8 (267, .int 252645135) := Or.inl ⟨_, rfl, (xTs_in (tin_2 _ (List.mem_of_getElem? (i := 187) rfl)) rfl)⟩
theorem tk_8 : ∀ e ∈ xKT.getD 8 [], Ptk 8 e := by
  show ∀ e ∈ [(265, .int 1431655765), (266, .int 858993459), (267, .int 252645135)], Ptk 8 e
  exact List.forall_mem_cons.mpr ⟨tk_8_0, List.forall_mem_cons.mpr ⟨tk_8_1, List.forall_mem_cons.mpr ⟨tk_8_2, fun _ h => absurd h List.not_mem_nil⟩⟩⟩
theorem tk_9 : ∀ e ∈ xKT.getD 9 [], Ptk 9 e := fun _ h => absurd h List.not_mem_nil
theorem tk_10 : ∀ e ∈ xKT.getD 10 [], Ptk 10 e := fun _ h => absurd h List.not_mem_nil
theorem tk_11 : ∀ e ∈ xKT.getD 11 [], Ptk 11 e := fun _ h => absurd h List.not_mem_nil
theorem tk_12 : ∀ e ∈ xKT.getD 12 [], Ptk 12 e := fun _ h => absurd h List.not_mem_nil
theorem tk_all : ∀ (own : Nat) e, e ∈ xKT.getD own [] → Ptk own e := by
  intro own e h
  match own, h with
  | 0, h => exact tk_0 e h
  | 1, h => exact tk_1 e h
  | 2, h => exact tk_2 e h
  | 3, h => exact tk_3 e h
  | 4, h => exact tk_4 e h
  | 5, h => exact tk_5 e h
  | 6, h => exact tk_6 e h
  | 7, h => exact tk_7 e h
  | 8, h => exact tk_8 e h
  | 9, h => exact tk_9 e h
  | 10, h => exact tk_10 e h
  | 11, h => exact tk_11 e h
  | 12, h => exact tk_12 e h
  | n + 13, h => exact absurd h List.not_mem_nil
theorem t_K1 : xTK1 := fun own idx v h => tk_all own _ (xfind_mem h)
def Ptg (own : Nat) (e : Nat × Value) : Prop := (e.2 = .ref 1000 ∧ (Cond.fieldLink (xR own) e.1 RX5 "MOST_OF_RULE" "[I" ∈ xTs ∨ (own = 4 ∧ e.1 = 90))) ∨ (e.2 = .ref 1001 ∧ Cond.fieldLink (xR own) e.1 RX0 "ABOVE" "[I" ∈ xTs) ∨ (e.2 = .int 1 ∧ Cond.fieldLink (xR own) e.1 RJ0 "COMPACT_STRINGS" "Z" ∈ xTs) ∨ (e.2 = .null ∧ Cond.fieldLink (xR own) e.1 RJ3 "SIOOBE_FORMATTER" "Ljava/util/function/BiFunction;" ∈ xTs)
theorem tg_0_0 : Ptg 0 (20, .ref 1001) := Or.inr (Or.inl ⟨rfl, (xTs_in (tin_4 _ (List.mem_of_getElem? (i := 27) rfl)) rfl)⟩)
theorem tg_0 : ∀ e ∈ xGT.getD 0 [], Ptg 0 e := by
  show ∀ e ∈ [(20, .ref 1001)], Ptg 0 e
  exact List.forall_mem_cons.mpr ⟨tg_0_0, fun _ h => absurd h List.not_mem_nil⟩
theorem tg_1 : ∀ e ∈ xGT.getD 1 [], Ptg 1 e := fun _ h => absurd h List.not_mem_nil
theorem tg_2 : ∀ e ∈ xGT.getD 2 [], Ptg 2 e := fun _ h => absurd h List.not_mem_nil
theorem tg_3 : ∀ e ∈ xGT.getD 3 [], Ptg 3 e := fun _ h => absurd h List.not_mem_nil
theorem tg_4_0 : Ptg 4 (90, .ref 1000) := Or.inl ⟨rfl, Or.inr ⟨rfl, rfl⟩⟩
theorem tg_4 : ∀ e ∈ xGT.getD 4 [], Ptg 4 e := by
  show ∀ e ∈ [(90, .ref 1000)], Ptg 4 e
  exact List.forall_mem_cons.mpr ⟨tg_4_0, fun _ h => absurd h List.not_mem_nil⟩
theorem tg_5_0 : Ptg 5 (104, .ref 1000) := Or.inl ⟨rfl, Or.inl (xTs_in (tin_2 _ (List.mem_of_getElem? (i := 77) rfl)) rfl)⟩
theorem tg_5 : ∀ e ∈ xGT.getD 5 [], Ptg 5 e := by
  show ∀ e ∈ [(104, .ref 1000)], Ptg 5 e
  exact List.forall_mem_cons.mpr ⟨tg_5_0, fun _ h => absurd h List.not_mem_nil⟩
theorem tg_6 : ∀ e ∈ xGT.getD 6 [], Ptg 6 e := fun _ h => absurd h List.not_mem_nil
theorem tg_7 : ∀ e ∈ xGT.getD 7 [], Ptg 7 e := fun _ h => absurd h List.not_mem_nil
theorem tg_8 : ∀ e ∈ xGT.getD 8 [], Ptg 8 e := fun _ h => absurd h List.not_mem_nil
theorem tg_9 : ∀ e ∈ xGT.getD 9 [], Ptg 9 e := fun _ h => absurd h List.not_mem_nil
theorem tg_10_0 : Ptg 10 (38, .int 1) := Or.inr (Or.inr (Or.inl ⟨rfl, (xTs_in (tin_3 _ (List.mem_of_getElem? (i := 179) rfl)) rfl)⟩))
theorem tg_10_1 : Ptg 10 (1053, .null) := Or.inr (Or.inr (Or.inr ⟨rfl, (xTs_in (tin_3 _ (List.mem_of_getElem? (i := 195) rfl)) rfl)⟩))
theorem tg_10 : ∀ e ∈ xGT.getD 10 [], Ptg 10 e := by
  show ∀ e ∈ [(38, .int 1), (1053, .null)], Ptg 10 e
  exact List.forall_mem_cons.mpr ⟨tg_10_0, List.forall_mem_cons.mpr ⟨tg_10_1, fun _ h => absurd h List.not_mem_nil⟩⟩
theorem tg_11 : ∀ e ∈ xGT.getD 11 [], Ptg 11 e := fun _ h => absurd h List.not_mem_nil
theorem tg_12 : ∀ e ∈ xGT.getD 12 [], Ptg 12 e := fun _ h => absurd h List.not_mem_nil
theorem tg_all : ∀ (own : Nat) e, e ∈ xGT.getD own [] → Ptg own e := by
  intro own e h
  match own, h with
  | 0, h => exact tg_0 e h
  | 1, h => exact tg_1 e h
  | 2, h => exact tg_2 e h
  | 3, h => exact tg_3 e h
  | 4, h => exact tg_4 e h
  | 5, h => exact tg_5 e h
  | 6, h => exact tg_6 e h
  | 7, h => exact tg_7 e h
  | 8, h => exact tg_8 e h
  | 9, h => exact tg_9 e h
  | 10, h => exact tg_10 e h
  | 11, h => exact tg_11 e h
  | 12, h => exact tg_12 e h
  | n + 13, h => exact absurd h List.not_mem_nil
theorem t_G1 : xTG1 := fun own idx v h => tg_all own _ (xfind_mem h)
theorem tnd_0 : ∀ k, k < 16 → ∃ ty, parseFieldDescriptor (TX1 k).2.2.1 = some ty ∧ defaultValue ty = (match ([2, 2, 2, 2, 2, 2, 2, 0, 2, 2, 0, 0, 0, 0, 0, 0] : List Nat).getD k 2 with | 0 => .int 0 | 1 => .long 0 | _ => .null) ∧ ([2, 2, 2, 2, 2, 2, 2, 0, 2, 2, 0, 0, 0, 0, 0, 0] : List Nat).getD k 2 ≤ 2 := by
  have h : ∀ k, k < 16 → defaultValue (tyX1 k) = (match ([2, 2, 2, 2, 2, 2, 2, 0, 2, 2, 0, 0, 0, 0, 0, 0] : List Nat).getD k 2 with | 0 => .int 0 | 1 => .long 0 | _ => .null) ∧ ([2, 2, 2, 2, 2, 2, 2, 0, 2, 2, 0, 0, 0, 0, 0, 0] : List Nat).getD k 2 ≤ 2 := by decide +kernel
  exact fun k hk => ⟨tyX1 k, tyX1_ok k hk, (h k hk).1, (h k hk).2⟩
theorem tnd_1 : ∀ k, k < 15 → ∃ ty, parseFieldDescriptor (TX2 k).2.2.1 = some ty ∧ defaultValue ty = (match ([0, 2, 2, 2, 2, 2, 0, 0, 0, 0, 2, 2, 2, 0, 2] : List Nat).getD k 2 with | 0 => .int 0 | 1 => .long 0 | _ => .null) ∧ ([0, 2, 2, 2, 2, 2, 0, 0, 0, 0, 2, 2, 2, 0, 2] : List Nat).getD k 2 ≤ 2 := by
  have h : ∀ k, k < 15 → defaultValue (tyX2 k) = (match ([0, 2, 2, 2, 2, 2, 0, 0, 0, 0, 2, 2, 2, 0, 2] : List Nat).getD k 2 with | 0 => .int 0 | 1 => .long 0 | _ => .null) ∧ ([0, 2, 2, 2, 2, 2, 0, 0, 0, 0, 2, 2, 2, 0, 2] : List Nat).getD k 2 ≤ 2 := by decide +kernel
  exact fun k hk => ⟨tyX2 k, tyX2_ok k hk, (h k hk).1, (h k hk).2⟩
theorem tnd_2 : ∀ k, k < 3 → ∃ ty, parseFieldDescriptor (TX3 k).2.2.1 = some ty ∧ defaultValue ty = (match ([2, 2, 2] : List Nat).getD k 2 with | 0 => .int 0 | 1 => .long 0 | _ => .null) ∧ ([2, 2, 2] : List Nat).getD k 2 ≤ 2 := by
  have h : ∀ k, k < 3 → defaultValue (tyX3 k) = (match ([2, 2, 2] : List Nat).getD k 2 with | 0 => .int 0 | 1 => .long 0 | _ => .null) ∧ ([2, 2, 2] : List Nat).getD k 2 ≤ 2 := by decide +kernel
  exact fun k hk => ⟨tyX3 k, tyX3_ok k hk, (h k hk).1, (h k hk).2⟩
theorem tnd_3 : ∀ k, k < 10 → ∃ ty, parseFieldDescriptor (TX4 k).2.2.1 = some ty ∧ defaultValue ty = (match ([2, 0, 2, 2, 2, 2, 0, 0, 0, 0] : List Nat).getD k 2 with | 0 => .int 0 | 1 => .long 0 | _ => .null) ∧ ([2, 0, 2, 2, 2, 2, 0, 0, 0, 0] : List Nat).getD k 2 ≤ 2 := by
  have h : ∀ k, k < 10 → defaultValue (tyX4 k) = (match ([2, 0, 2, 2, 2, 2, 0, 0, 0, 0] : List Nat).getD k 2 with | 0 => .int 0 | 1 => .long 0 | _ => .null) ∧ ([2, 0, 2, 2, 2, 2, 0, 0, 0, 0] : List Nat).getD k 2 ≤ 2 := by decide +kernel
  exact fun k hk => ⟨tyX4 k, tyX4_ok k hk, (h k hk).1, (h k hk).2⟩
theorem tnd_4 : ∀ k, k < 8 → ∃ ty, parseFieldDescriptor (TX5 k).2.2.1 = some ty ∧ defaultValue ty = (match ([2, 2, 2, 2, 2, 2, 2, 0] : List Nat).getD k 2 with | 0 => .int 0 | 1 => .long 0 | _ => .null) ∧ ([2, 2, 2, 2, 2, 2, 2, 0] : List Nat).getD k 2 ≤ 2 := by
  have h : ∀ k, k < 8 → defaultValue (tyX5 k) = (match ([2, 2, 2, 2, 2, 2, 2, 0] : List Nat).getD k 2 with | 0 => .int 0 | 1 => .long 0 | _ => .null) ∧ ([2, 2, 2, 2, 2, 2, 2, 0] : List Nat).getD k 2 ≤ 2 := by decide +kernel
  exact fun k hk => ⟨tyX5 k, tyX5_ok k hk, (h k hk).1, (h k hk).2⟩
theorem tnd_5 : ∀ k, k < 25 → ∃ ty, parseFieldDescriptor (TX6 k).2.2.1 = some ty ∧ defaultValue ty = (match ([2, 2, 2, 0, 2, 2, 2, 0, 2, 2, 0, 2, 0, 0, 0, 0, 1, 2, 2, 2, 2, 2, 2, 2, 0] : List Nat).getD k 2 with | 0 => .int 0 | 1 => .long 0 | _ => .null) ∧ ([2, 2, 2, 0, 2, 2, 2, 0, 2, 2, 0, 2, 0, 0, 0, 0, 1, 2, 2, 2, 2, 2, 2, 2, 0] : List Nat).getD k 2 ≤ 2 := by
  have h : ∀ k, k < 25 → defaultValue (tyX6 k) = (match ([2, 2, 2, 0, 2, 2, 2, 0, 2, 2, 0, 2, 0, 0, 0, 0, 1, 2, 2, 2, 2, 2, 2, 2, 0] : List Nat).getD k 2 with | 0 => .int 0 | 1 => .long 0 | _ => .null) ∧ ([2, 2, 2, 0, 2, 2, 2, 0, 2, 2, 0, 2, 0, 0, 0, 0, 1, 2, 2, 2, 2, 2, 2, 2, 0] : List Nat).getD k 2 ≤ 2 := by decide +kernel
  exact fun k hk => ⟨tyX6 k, tyX6_ok k hk, (h k hk).1, (h k hk).2⟩
def Ptn (own : Nat) (e : Nat × Nat × List Nat) : Prop := ∃ C T N, vwCl[e.2.1]? = some (C, T, N) ∧ e.2.2.length = N ∧ N ≤ 90 ∧ Cond.classLink (xR own) e.1 C ∈ xTs ∧ Cond.instantiable C N ∈ xTs ∧ Cond.initialized C ∈ xTs ∧ (∀ k, k < N → ∃ ty, parseFieldDescriptor (T k).2.2.1 = some ty ∧ defaultValue ty = (match e.2.2.getD k 2 with | 0 => .int 0 | 1 => .long 0 | _ => .null) ∧ e.2.2.getD k 2 ≤ 2) ∧ Cond.arrayClass .int ∈ xTs ∧ Cond.arrayClass .char ∈ xTs
theorem tn_0 : ∀ e ∈ xNT.getD 0 [], Ptn 0 e := fun _ h => absurd h List.not_mem_nil
theorem tn_1 : ∀ e ∈ xNT.getD 1 [], Ptn 1 e := fun _ h => absurd h List.not_mem_nil
theorem tn_2 : ∀ e ∈ xNT.getD 2 [], Ptn 2 e := fun _ h => absurd h List.not_mem_nil
theorem tn_3 : ∀ e ∈ xNT.getD 3 [], Ptn 3 e := fun _ h => absurd h List.not_mem_nil
theorem tn_4 : ∀ e ∈ xNT.getD 4 [], Ptn 4 e := fun _ h => absurd h List.not_mem_nil
theorem tn_5_0 : Ptn 5 (13, 1, [0, 2, 2, 2, 2, 2, 0, 0, 0, 0, 2, 2, 2, 0, 2]) := ⟨RX2, TX2, 15, rfl, rfl, by decide, (xTs_in (tin_1 _ (List.mem_of_getElem? (i := 23) rfl)) rfl), (xTs_in (tin_1 _ (List.mem_of_getElem? (i := 24) rfl)) rfl), (xTs_in (tin_1 _ (List.mem_of_getElem? (i := 2) rfl)) rfl), tnd_1, (xTs_in (tin_1 _ (List.mem_of_getElem? (i := 100) rfl)) rfl), (xTs_in (tin_4 _ (List.mem_of_getElem? (i := 203) rfl)) rfl)⟩
theorem tn_5_1 : Ptn 5 (26, 0, [2, 2, 2, 2, 2, 2, 2, 0, 2, 2, 0, 0, 0, 0, 0, 0]) := ⟨RX1, TX1, 16, rfl, rfl, by decide, (xTs_in (tin_1 _ (List.mem_of_getElem? (i := 101) rfl)) rfl), (xTs_in (tin_1 _ (List.mem_of_getElem? (i := 102) rfl)) rfl), (xTs_in (tin_1 _ (List.mem_of_getElem? (i := 3) rfl)) rfl), tnd_0, (xTs_in (tin_1 _ (List.mem_of_getElem? (i := 100) rfl)) rfl), (xTs_in (tin_4 _ (List.mem_of_getElem? (i := 203) rfl)) rfl)⟩
theorem tn_5_2 : Ptn 5 (33, 3, [2, 0, 2, 2, 2, 2, 0, 0, 0, 0]) := ⟨RX4, TX4, 10, rfl, rfl, by decide, (xTs_in (tin_1 _ (List.mem_of_getElem? (i := 160) rfl)) rfl), (xTs_in (tin_1 _ (List.mem_of_getElem? (i := 161) rfl)) rfl), (xTs_in (tin_1 _ (List.mem_of_getElem? (i := 4) rfl)) rfl), tnd_3, (xTs_in (tin_1 _ (List.mem_of_getElem? (i := 100) rfl)) rfl), (xTs_in (tin_4 _ (List.mem_of_getElem? (i := 203) rfl)) rfl)⟩
theorem tn_5_3 : Ptn 5 (40, 2, [2, 2, 2]) := ⟨RX3, TX3, 3, rfl, rfl, by decide, (xTs_in (tin_1 _ (List.mem_of_getElem? (i := 198) rfl)) rfl), (xTs_in (tin_1 _ (List.mem_of_getElem? (i := 199) rfl)) rfl), (xTs_in (tin_1 _ (List.mem_of_getElem? (i := 5) rfl)) rfl), tnd_2, (xTs_in (tin_1 _ (List.mem_of_getElem? (i := 100) rfl)) rfl), (xTs_in (tin_4 _ (List.mem_of_getElem? (i := 203) rfl)) rfl)⟩
theorem tn_5 : ∀ e ∈ xNT.getD 5 [], Ptn 5 e := by
  show ∀ e ∈ [(13, 1, [0, 2, 2, 2, 2, 2, 0, 0, 0, 0, 2, 2, 2, 0, 2]), (26, 0, [2, 2, 2, 2, 2, 2, 2, 0, 2, 2, 0, 0, 0, 0, 0, 0]), (33, 3, [2, 0, 2, 2, 2, 2, 0, 0, 0, 0]), (40, 2, [2, 2, 2])], Ptn 5 e
  exact List.forall_mem_cons.mpr ⟨tn_5_0, List.forall_mem_cons.mpr ⟨tn_5_1, List.forall_mem_cons.mpr ⟨tn_5_2, List.forall_mem_cons.mpr ⟨tn_5_3, fun _ h => absurd h List.not_mem_nil⟩⟩⟩⟩
theorem tn_6 : ∀ e ∈ xNT.getD 6 [], Ptn 6 e := fun _ h => absurd h List.not_mem_nil
theorem tn_7_0 : Ptn 7 (7, 4, [2, 2, 2, 2, 2, 2, 2, 0]) := ⟨RX5, TX5, 8, rfl, rfl, by decide, (xTs_in (tin_1 _ (List.mem_of_getElem? (i := 15) rfl)) rfl), (xTs_in (tin_1 _ (List.mem_of_getElem? (i := 16) rfl)) rfl), (xTs_in (tin_1 _ (List.mem_of_getElem? (i := 1) rfl)) rfl), tnd_4, (xTs_in (tin_1 _ (List.mem_of_getElem? (i := 100) rfl)) rfl), (xTs_in (tin_4 _ (List.mem_of_getElem? (i := 203) rfl)) rfl)⟩
theorem tn_7_1 : Ptn 7 (10, 5, [2, 2, 2, 0, 2, 2, 2, 0, 2, 2, 0, 2, 0, 0, 0, 0, 1, 2, 2, 2, 2, 2, 2, 2, 0]) := ⟨RX6, TX6, 25, rfl, rfl, by decide, (xTs_in (tin_4 _ (List.mem_of_getElem? (i := 121) rfl)) rfl), (xTs_in (tin_4 _ (List.mem_of_getElem? (i := 122) rfl)) rfl), (xTs_in (tin_1 _ (List.mem_of_getElem? (i := 6) rfl)) rfl), tnd_5, (xTs_in (tin_1 _ (List.mem_of_getElem? (i := 100) rfl)) rfl), (xTs_in (tin_4 _ (List.mem_of_getElem? (i := 203) rfl)) rfl)⟩
theorem tn_7 : ∀ e ∈ xNT.getD 7 [], Ptn 7 e := by
  show ∀ e ∈ [(7, 4, [2, 2, 2, 2, 2, 2, 2, 0]), (10, 5, [2, 2, 2, 0, 2, 2, 2, 0, 2, 2, 0, 2, 0, 0, 0, 0, 1, 2, 2, 2, 2, 2, 2, 2, 0])], Ptn 7 e
  exact List.forall_mem_cons.mpr ⟨tn_7_0, List.forall_mem_cons.mpr ⟨tn_7_1, fun _ h => absurd h List.not_mem_nil⟩⟩
theorem tn_8 : ∀ e ∈ xNT.getD 8 [], Ptn 8 e := fun _ h => absurd h List.not_mem_nil
theorem tn_9 : ∀ e ∈ xNT.getD 9 [], Ptn 9 e := fun _ h => absurd h List.not_mem_nil
theorem tn_10 : ∀ e ∈ xNT.getD 10 [], Ptn 10 e := fun _ h => absurd h List.not_mem_nil
theorem tn_11 : ∀ e ∈ xNT.getD 11 [], Ptn 11 e := fun _ h => absurd h List.not_mem_nil
theorem tn_12 : ∀ e ∈ xNT.getD 12 [], Ptn 12 e := fun _ h => absurd h List.not_mem_nil
theorem tn_all : ∀ (own : Nat) e, e ∈ xNT.getD own [] → Ptn own e := by
  intro own e h
  match own, h with
  | 0, h => exact tn_0 e h
  | 1, h => exact tn_1 e h
  | 2, h => exact tn_2 e h
  | 3, h => exact tn_3 e h
  | 4, h => exact tn_4 e h
  | 5, h => exact tn_5 e h
  | 6, h => exact tn_6 e h
  | 7, h => exact tn_7 e h
  | 8, h => exact tn_8 e h
  | 9, h => exact tn_9 e h
  | 10, h => exact tn_10 e h
  | 11, h => exact tn_11 e h
  | 12, h => exact tn_12 e h
  | n + 13, h => exact absurd h List.not_mem_nil
theorem t_N1 : xTN1 := fun own idx ci tags h => tn_all own _ (xfind_mem h)
theorem t_W1 : xTW1 := ⟨(xTs_in (tin_1 _ (List.mem_of_getElem? (i := 100) rfl)) rfl), (xTs_in (tin_4 _ (List.mem_of_getElem? (i := 203) rfl)) rfl), (xTs_in (tin_2 _ (List.mem_of_getElem? (i := 141) rfl)) rfl), (xTs_in (tin_2 _ (List.mem_of_getElem? (i := 140) rfl)) rfl), (xTs_in (tin_1 _ (List.mem_of_getElem? (i := 9) rfl)) rfl), (xTs_in (tin_1 _ (List.mem_of_getElem? (i := 21) rfl)) rfl), (xTs_in (tin_1 _ (List.mem_of_getElem? (i := 22) rfl)) rfl), (xTs_in (tin_1 _ (List.mem_of_getElem? (i := 8) rfl)) rfl), ⟨(xTs_in (tin_2 _ (List.mem_of_getElem? (i := 40) rfl)) rfl), (xTs_in (tin_2 _ (List.mem_of_getElem? (i := 41) rfl)) rfl)⟩, ⟨(xTs_in (tin_3 _ (List.mem_of_getElem? (i := 13) rfl)) rfl), (xTs_in (tin_3 _ (List.mem_of_getElem? (i := 14) rfl)) rfl)⟩, ⟨(xTs_in (tin_3 _ (List.mem_of_getElem? (i := 67) rfl)) rfl), (xTs_in (tin_3 _ (List.mem_of_getElem? (i := 68) rfl)) rfl)⟩⟩
end
section
/-! the tables are right, 1 (by gen/tabok.py) -/

def xmokb (cc : ByteArray) (nL : Nat) (M : xT) : Bool := M.2.1.all (fun ch => ch.all (fun r => xenok cc nL r)) && M.2.2.1.all (fun x => Nat.ble x.1 99999)
theorem xmok_of {cc : ByteArray} {nL : Nat} {M : xT} (h : xmokb cc nL M = true) : xmok cc nL M := by
  unfold xmokb at h
  simp only [Bool.and_eq_true, List.all_eq_true] at h
  refine ⟨h.1, fun x hx => ?_⟩
  have := Nat.le_of_ble_eq_true (h.2 x hx)
  omega
abbrev xMe : Type := xT × MethodName × ByteArray × Nat
def Pm (e : xMe) : Prop := e.2.1.cls = xR e.1.1 ∧ (plainName e.2.1.cls = true ∧ Cond.code e.2.1 e.2.2.1 e.2.2.2 e.1.2.2.2.1 ∈ xTs) ∧ e.2.2.2 ≤ 21 ∧ e.2.2.2 = e.1.2.2.2.2.2 ∧ xmok e.2.2.1 e.2.2.2 e.1 ∧ (e.1.2.2.2.2.1 = true → e.2.1.name = "<init>")
set_option maxRecDepth 100000 in
theorem tmo_0 : xmok cX0_noiseOf 3 xm_0 := xmok_of (by decide +kernel)
theorem tm_0 : Pm (xm_0, yX0_noiseOf, cX0_noiseOf, 3) := ⟨rfl, ⟨by decide +kernel, (xTs_in (tin_2 _ (List.mem_of_getElem? (i := 53) rfl)) rfl)⟩, by decide, rfl, tmo_0, fun h => absurd h (by decide)⟩
set_option maxRecDepth 100000 in
theorem tmo_1 : xmok cX0_fallingNoise 2 xm_1 := xmok_of (by decide +kernel)
theorem tm_1 : Pm (xm_1, yX0_fallingNoise, cX0_fallingNoise, 2) := ⟨rfl, ⟨by decide +kernel, (xTs_in (tin_2 _ (List.mem_of_getElem? (i := 56) rfl)) rfl)⟩, by decide, rfl, tmo_1, fun h => absurd h (by decide)⟩
set_option maxRecDepth 100000 in
theorem tmo_2 : xmok cX0_leftBy 2 xm_2 := xmok_of (by decide +kernel)
theorem tm_2 : Pm (xm_2, yX0_leftBy, cX0_leftBy, 2) := ⟨rfl, ⟨by decide +kernel, (xTs_in (tin_2 _ (List.mem_of_getElem? (i := 31) rfl)) rfl)⟩, by decide, rfl, tmo_2, fun h => absurd h (by decide)⟩
set_option maxRecDepth 100000 in
theorem tmo_3 : xmok cX0_lastedBy 2 xm_3 := xmok_of (by decide +kernel)
theorem tm_3 : Pm (xm_3, yX0_lastedBy, cX0_lastedBy, 2) := ⟨rfl, ⟨by decide +kernel, (xTs_in (tin_2 _ (List.mem_of_getElem? (i := 38) rfl)) rfl)⟩, by decide, rfl, tmo_3, fun h => absurd h (by decide)⟩
set_option maxRecDepth 100000 in
theorem tmo_4 : xmok cX0_isUnder 4 xm_4 := xmok_of (by decide +kernel)
theorem tm_4 : Pm (xm_4, yX0_isUnder, cX0_isUnder, 4) := ⟨rfl, ⟨by decide +kernel, (xTs_in (tin_4 _ (List.mem_of_getElem? (i := 26) rfl)) rfl)⟩, by decide, rfl, tmo_4, fun h => absurd h (by decide)⟩
set_option maxRecDepth 100000 in
theorem tmo_5 : xmok cX1_startFrom 2 xm_5 := xmok_of (by decide +kernel)
theorem tm_5 : Pm (xm_5, yX1_startFrom, cX1_startFrom, 2) := ⟨rfl, ⟨by decide +kernel, (xTs_in (tin_2 _ (List.mem_of_getElem? (i := 138) rfl)) rfl)⟩, by decide, rfl, tmo_5, fun h => absurd h (by decide)⟩
set_option maxRecDepth 100000 in
theorem tmo_6 : xmok cX1_rest 1 xm_6 := xmok_of (by decide +kernel)
theorem tm_6 : Pm (xm_6, yX1_rest, cX1_rest, 1) := ⟨rfl, ⟨by decide +kernel, (xTs_in (tin_2 _ (List.mem_of_getElem? (i := 181) rfl)) rfl)⟩, by decide, rfl, tmo_6, fun h => absurd h (by decide)⟩
set_option maxRecDepth 100000 in
theorem tmo_7 : xmok cX1_canFollow 3 xm_7 := xmok_of (by decide +kernel)
theorem tm_7 : Pm (xm_7, yX1_canFollow, cX1_canFollow, 3) := ⟨rfl, ⟨by decide +kernel, (xTs_in (tin_2 _ (List.mem_of_getElem? (i := 149) rfl)) rfl)⟩, by decide, rfl, tmo_7, fun h => absurd h (by decide)⟩
set_option maxRecDepth 100000 in
theorem tmo_8 : xmok cX1_haveWay 4 xm_8 := xmok_of (by decide +kernel)
theorem tm_8 : Pm (xm_8, yX1_haveWay, cX1_haveWay, 4) := ⟨rfl, ⟨by decide +kernel, (xTs_in (tin_2 _ (List.mem_of_getElem? (i := 145) rfl)) rfl)⟩, by decide, rfl, tmo_8, fun h => absurd h (by decide)⟩
set_option maxRecDepth 100000 in
theorem tmo_9 : xmok cX1_canStand 4 xm_9 := xmok_of (by decide +kernel)
theorem tm_9 : Pm (xm_9, yX1_canStand, cX1_canStand, 4) := ⟨rfl, ⟨by decide +kernel, (xTs_in (tin_2 _ (List.mem_of_getElem? (i := 163) rfl)) rfl)⟩, by decide, rfl, tmo_9, fun h => absurd h (by decide)⟩
set_option maxRecDepth 100000 in
theorem tmo_10 : xmok cX1_score 6 xm_10 := xmok_of (by decide +kernel)
theorem tm_10 : Pm (xm_10, yX1_score, cX1_score, 6) := ⟨rfl, ⟨by decide +kernel, (xTs_in (tin_2 _ (List.mem_of_getElem? (i := 157) rfl)) rfl)⟩, by decide, rfl, tmo_10, fun h => absurd h (by decide)⟩
set_option maxRecDepth 100000 in
theorem tmo_11 : xmok cX1_weigh 4 xm_11 := xmok_of (by decide +kernel)
theorem tm_11 : Pm (xm_11, yX1_weigh, cX1_weigh, 4) := ⟨rfl, ⟨by decide +kernel, (xTs_in (tin_2 _ (List.mem_of_getElem? (i := 153) rfl)) rfl)⟩, by decide, rfl, tmo_11, fun h => absurd h (by decide)⟩
set_option maxRecDepth 100000 in
theorem tmo_12 : xmok cX1_findFollowers 3 xm_12 := xmok_of (by decide +kernel)
theorem tm_12 : Pm (xm_12, yX1_findFollowers, cX1_findFollowers, 3) := ⟨rfl, ⟨by decide +kernel, (xTs_in (tin_2 _ (List.mem_of_getElem? (i := 167) rfl)) rfl)⟩, by decide, rfl, tmo_12, fun h => absurd h (by decide)⟩
set_option maxRecDepth 100000 in
theorem tmo_13 : xmok cX1_mostBehind 4 xm_13 := xmok_of (by decide +kernel)
theorem tm_13 : Pm (xm_13, yX1_mostBehind, cX1_mostBehind, 4) := ⟨rfl, ⟨by decide +kernel, (xTs_in (tin_2 _ (List.mem_of_getElem? (i := 171) rfl)) rfl)⟩, by decide, rfl, tmo_13, fun h => absurd h (by decide)⟩
set_option maxRecDepth 100000 in
theorem tmo_14 : xmok cX1_findFirst 6 xm_14 := xmok_of (by decide +kernel)
theorem tm_14 : Pm (xm_14, yX1_findFirst, cX1_findFirst, 6) := ⟨rfl, ⟨by decide +kernel, (xTs_in (tin_2 _ (List.mem_of_getElem? (i := 191) rfl)) rfl)⟩, by decide, rfl, tmo_14, fun h => absurd h (by decide)⟩
set_option maxRecDepth 100000 in
theorem tmo_15 : xmok cX1_firstBehind 4 xm_15 := xmok_of (by decide +kernel)
theorem tm_15 : Pm (xm_15, yX1_firstBehind, cX1_firstBehind, 4) := ⟨rfl, ⟨by decide +kernel, (xTs_in (tin_2 _ (List.mem_of_getElem? (i := 197) rfl)) rfl)⟩, by decide, rfl, tmo_15, fun h => absurd h (by decide)⟩
set_option maxRecDepth 100000 in
theorem tmo_16 : xmok cX1_countWays 4 xm_16 := xmok_of (by decide +kernel)
theorem tm_16 : Pm (xm_16, yX1_countWays, cX1_countWays, 4) := ⟨rfl, ⟨by decide +kernel, (xTs_in (tin_2 _ (List.mem_of_getElem? (i := 205) rfl)) rfl)⟩, by decide, rfl, tmo_16, fun h => absurd h (by decide)⟩
set_option maxRecDepth 100000 in
theorem tmo_17 : xmok cX1_lastOnes 3 xm_17 := xmok_of (by decide +kernel)
theorem tm_17 : Pm (xm_17, yX1_lastOnes, cX1_lastOnes, 3) := ⟨rfl, ⟨by decide +kernel, (xTs_in (tin_2 _ (List.mem_of_getElem? (i := 213) rfl)) rfl)⟩, by decide, rfl, tmo_17, fun h => absurd h (by decide)⟩
set_option maxRecDepth 100000 in
theorem tmo_18 : xmok cX1_allAhead 6 xm_18 := xmok_of (by decide +kernel)
theorem tm_18 : Pm (xm_18, yX1_allAhead, cX1_allAhead, 6) := ⟨rfl, ⟨by decide +kernel, (xTs_in (tin_2 _ (List.mem_of_getElem? (i := 229) rfl)) rfl)⟩, by decide, rfl, tmo_18, fun h => absurd h (by decide)⟩
set_option maxRecDepth 100000 in
theorem tmo_19 : xmok cX1_earliest 2 xm_19 := xmok_of (by decide +kernel)
theorem tm_19 : Pm (xm_19, yX1_earliest, cX1_earliest, 2) := ⟨rfl, ⟨by decide +kernel, (xTs_in (tin_2 _ (List.mem_of_getElem? (i := 225) rfl)) rfl)⟩, by decide, rfl, tmo_19, fun h => absurd h (by decide)⟩
set_option maxRecDepth 100000 in
theorem tmo_20 : xmok cX1_latest 5 xm_20 := xmok_of (by decide +kernel)
theorem tm_20 : Pm (xm_20, yX1_latest, cX1_latest, 5) := ⟨rfl, ⟨by decide +kernel, (xTs_in (tin_2 _ (List.mem_of_getElem? (i := 233) rfl)) rfl)⟩, by decide, rfl, tmo_20, fun h => absurd h (by decide)⟩
set_option maxRecDepth 100000 in
theorem tmo_21 : xmok cX1_fewestBroken 5 xm_21 := xmok_of (by decide +kernel)
theorem tm_21 : Pm (xm_21, yX1_fewestBroken, cX1_fewestBroken, 5) := ⟨rfl, ⟨by decide +kernel, (xTs_in (tin_3 _ (List.mem_of_getElem? (i := 10) rfl)) rfl)⟩, by decide, rfl, tmo_21, fun h => absurd h (by decide)⟩
set_option maxRecDepth 100000 in
theorem tmo_22 : xmok cX1_bestKind 6 xm_22 := xmok_of (by decide +kernel)
theorem tm_22 : Pm (xm_22, yX1_bestKind, cX1_bestKind, 6) := ⟨rfl, ⟨by decide +kernel, (xTs_in (tin_3 _ (List.mem_of_getElem? (i := 26) rfl)) rfl)⟩, by decide, rfl, tmo_22, fun h => absurd h (by decide)⟩
set_option maxRecDepth 100000 in
theorem tmo_23 : xmok cX1_freeOne 6 xm_23 := xmok_of (by decide +kernel)
theorem tm_23 : Pm (xm_23, yX1_freeOne, cX1_freeOne, 6) := ⟨rfl, ⟨by decide +kernel, (xTs_in (tin_3 _ (List.mem_of_getElem? (i := 34) rfl)) rfl)⟩, by decide, rfl, tmo_23, fun h => absurd h (by decide)⟩
set_option maxRecDepth 100000 in
theorem tmo_24 : xmok cX2_become 2 xm_24 := xmok_of (by decide +kernel)
theorem tm_24 : Pm (xm_24, yX2_become, cX2_become, 2) := ⟨rfl, ⟨by decide +kernel, (xTs_in (tin_3 _ (List.mem_of_getElem? (i := 127) rfl)) rfl)⟩, by decide, rfl, tmo_24, fun h => absurd h (by decide)⟩
set_option maxRecDepth 100000 in
theorem tmo_25 : xmok cX2_isBow 2 xm_25 := xmok_of (by decide +kernel)
theorem tm_25 : Pm (xm_25, yX2_isBow, cX2_isBow, 2) := ⟨rfl, ⟨by decide +kernel, (xTs_in (tin_2 _ (List.mem_of_getElem? (i := 24) rfl)) rfl)⟩, by decide, rfl, tmo_25, fun h => absurd h (by decide)⟩
set_option maxRecDepth 100000 in
theorem tmo_26 : xmok cX2_isSetWithout 3 xm_26 := xmok_of (by decide +kernel)
theorem tm_26 : Pm (xm_26, yX2_isSetWithout, cX2_isSetWithout, 3) := ⟨rfl, ⟨by decide +kernel, (xTs_in (tin_2 _ (List.mem_of_getElem? (i := 67) rfl)) rfl)⟩, by decide, rfl, tmo_26, fun h => absurd h (by decide)⟩
set_option maxRecDepth 100000 in
theorem tmo_27 : xmok cX2_addBow 3 xm_27 := xmok_of (by decide +kernel)
theorem tm_27 : Pm (xm_27, yX2_addBow, cX2_addBow, 3) := ⟨rfl, ⟨by decide +kernel, (xTs_in (tin_2 _ (List.mem_of_getElem? (i := 16) rfl)) rfl)⟩, by decide, rfl, tmo_27, fun h => absurd h (by decide)⟩
set_option maxRecDepth 100000 in
theorem tmo_28 : xmok cX2_noiseBy 3 xm_28 := xmok_of (by decide +kernel)
theorem tm_28 : Pm (xm_28, yX2_noiseBy, cX2_noiseBy, 3) := ⟨rfl, ⟨by decide +kernel, (xTs_in (tin_2 _ (List.mem_of_getElem? (i := 50) rfl)) rfl)⟩, by decide, rfl, tmo_28, fun h => absurd h (by decide)⟩
set_option maxRecDepth 100000 in
theorem tmo_29 : xmok cX2_leftBy 2 xm_29 := xmok_of (by decide +kernel)
theorem tm_29 : Pm (xm_29, yX2_leftBy, cX2_leftBy, 2) := ⟨rfl, ⟨by decide +kernel, (xTs_in (tin_2 _ (List.mem_of_getElem? (i := 28) rfl)) rfl)⟩, by decide, rfl, tmo_29, fun h => absurd h (by decide)⟩
set_option maxRecDepth 100000 in
theorem tmo_30 : xmok cX2_leftByLatest 1 xm_30 := xmok_of (by decide +kernel)
theorem tm_30 : Pm (xm_30, yX2_leftByLatest, cX2_leftByLatest, 1) := ⟨rfl, ⟨by decide +kernel, (xTs_in (tin_2 _ (List.mem_of_getElem? (i := 45) rfl)) rfl)⟩, by decide, rfl, tmo_30, fun h => absurd h (by decide)⟩
set_option maxRecDepth 100000 in
theorem tmo_31 : xmok cX2_lastedBy 2 xm_31 := xmok_of (by decide +kernel)
theorem tm_31 : Pm (xm_31, yX2_lastedBy, cX2_lastedBy, 2) := ⟨rfl, ⟨by decide +kernel, (xTs_in (tin_2 _ (List.mem_of_getElem? (i := 35) rfl)) rfl)⟩, by decide, rfl, tmo_31, fun h => absurd h (by decide)⟩
set_option maxRecDepth 100000 in
theorem tmo_32 : xmok cX2_hasCome 2 xm_32 := xmok_of (by decide +kernel)
theorem tm_32 : Pm (xm_32, yX2_hasCome, cX2_hasCome, 2) := ⟨rfl, ⟨by decide +kernel, (xTs_in (tin_2 _ (List.mem_of_getElem? (i := 221) rfl)) rfl)⟩, by decide, rfl, tmo_32, fun h => absurd h (by decide)⟩
set_option maxRecDepth 100000 in
theorem tmo_33 : xmok cX2_couldCome 3 xm_33 := xmok_of (by decide +kernel)
theorem tm_33 : Pm (xm_33, yX2_couldCome, cX2_couldCome, 3) := ⟨rfl, ⟨by decide +kernel, (xTs_in (tin_2 _ (List.mem_of_getElem? (i := 90) rfl)) rfl)⟩, by decide, rfl, tmo_33, fun h => absurd h (by decide)⟩
set_option maxRecDepth 100000 in
theorem tmo_34 : xmok cX2_comers 3 xm_34 := xmok_of (by decide +kernel)
theorem tm_34 : Pm (xm_34, yX2_comers, cX2_comers, 3) := ⟨rfl, ⟨by decide +kernel, (xTs_in (tin_2 _ (List.mem_of_getElem? (i := 125) rfl)) rfl)⟩, by decide, rfl, tmo_34, fun h => absurd h (by decide)⟩
set_option maxRecDepth 100000 in
theorem tmo_35 : xmok cX2_enter 4 xm_35 := xmok_of (by decide +kernel)
theorem tm_35 : Pm (xm_35, yX2_enter, cX2_enter, 4) := ⟨rfl, ⟨by decide +kernel, (xTs_in (tin_2 _ (List.mem_of_getElem? (i := 94) rfl)) rfl)⟩, by decide, rfl, tmo_35, fun h => absurd h (by decide)⟩
set_option maxRecDepth 100000 in
theorem tmo_36 : xmok cX2_leave 2 xm_36 := xmok_of (by decide +kernel)
theorem tm_36 : Pm (xm_36, yX2_leave, cX2_leave, 2) := ⟨rfl, ⟨by decide +kernel, (xTs_in (tin_2 _ (List.mem_of_getElem? (i := 105) rfl)) rfl)⟩, by decide, rfl, tmo_36, fun h => absurd h (by decide)⟩
set_option maxRecDepth 100000 in
theorem tmo_37 : xmok cX2_empty 1 xm_37 := xmok_of (by decide +kernel)
theorem tm_37 : Pm (xm_37, yX2_empty, cX2_empty, 1) := ⟨rfl, ⟨by decide +kernel, (xTs_in (tin_2 _ (List.mem_of_getElem? (i := 113) rfl)) rfl)⟩, by decide, rfl, tmo_37, fun h => absurd h (by decide)⟩
set_option maxRecDepth 100000 in
theorem tmo_38 : xmok cX2_falls 4 xm_38 := xmok_of (by decide +kernel)
theorem tm_38 : Pm (xm_38, yX2_falls, cX2_falls, 4) := ⟨rfl, ⟨by decide +kernel, (xTs_in (tin_2 _ (List.mem_of_getElem? (i := 130) rfl)) rfl)⟩, by decide, rfl, tmo_38, fun h => absurd h (by decide)⟩
set_option maxRecDepth 100000 in
theorem tmo_39 : xmok cX2_draw 1 xm_39 := xmok_of (by decide +kernel)
theorem tm_39 : Pm (xm_39, yX2_draw, cX2_draw, 1) := ⟨rfl, ⟨by decide +kernel, (xTs_in (tin_3 _ (List.mem_of_getElem? (i := 86) rfl)) rfl)⟩, by decide, rfl, tmo_39, fun h => absurd h (by decide)⟩
set_option maxRecDepth 100000 in
theorem tmo_40 : xmok cX2_contracts 3 xm_40 := xmok_of (by decide +kernel)
theorem tm_40 : Pm (xm_40, yX2_contracts, cX2_contracts, 3) := ⟨rfl, ⟨by decide +kernel, (xTs_in (tin_4 _ (List.mem_of_getElem? (i := 107) rfl)) rfl)⟩, by decide, rfl, tmo_40, fun h => absurd h (by decide)⟩
set_option maxRecDepth 100000 in
theorem tmo_41 : xmok cX2_lovesTogether 3 xm_41 := xmok_of (by decide +kernel)
theorem tm_41 : Pm (xm_41, yX2_lovesTogether, cX2_lovesTogether, 3) := ⟨rfl, ⟨by decide +kernel, (xTs_in (tin_4 _ (List.mem_of_getElem? (i := 112) rfl)) rfl)⟩, by decide, rfl, tmo_41, fun h => absurd h (by decide)⟩
set_option maxRecDepth 100000 in
theorem tmo_42 : xmok cX2_heldSpots 3 xm_42 := xmok_of (by decide +kernel)
theorem tm_42 : Pm (xm_42, yX2_heldSpots, cX2_heldSpots, 3) := ⟨rfl, ⟨by decide +kernel, (xTs_in (tin_4 _ (List.mem_of_getElem? (i := 116) rfl)) rfl)⟩, by decide, rfl, tmo_42, fun h => absurd h (by decide)⟩
set_option maxRecDepth 100000 in
theorem tmo_43 : xmok cX3_isSheet 2 xm_43 := xmok_of (by decide +kernel)
theorem tm_43 : Pm (xm_43, yX3_isSheet, cX3_isSheet, 2) := ⟨rfl, ⟨by decide +kernel, (xTs_in (tin_4 _ (List.mem_of_getElem? (i := 36) rfl)) rfl)⟩, by decide, rfl, tmo_43, fun h => absurd h (by decide)⟩
set_option maxRecDepth 100000 in
theorem tmo_44 : xmok cX3_wrongWith 2 xm_44 := xmok_of (by decide +kernel)
theorem tm_44 : Pm (xm_44, yX3_wrongWith, cX3_wrongWith, 2) := ⟨rfl, ⟨by decide +kernel, (xTs_in (tin_4 _ (List.mem_of_getElem? (i := 49) rfl)) rfl)⟩, by decide, rfl, tmo_44, fun h => absurd h (by decide)⟩
set_option maxRecDepth 100000 in
theorem tmo_45 : xmok cX3_lay 5 xm_45 := xmok_of (by decide +kernel)
theorem tm_45 : Pm (xm_45, yX3_lay, cX3_lay, 5) := ⟨rfl, ⟨by decide +kernel, (xTs_in (tin_4 _ (List.mem_of_getElem? (i := 41) rfl)) rfl)⟩, by decide, rfl, tmo_45, fun h => absurd h (by decide)⟩
set_option maxRecDepth 100000 in
theorem tmo_46 : xmok cX3_numberAt 3 xm_46 := xmok_of (by decide +kernel)
theorem tm_46 : Pm (xm_46, yX3_numberAt, cX3_numberAt, 3) := ⟨rfl, ⟨by decide +kernel, (xTs_in (tin_4 _ (List.mem_of_getElem? (i := 75) rfl)) rfl)⟩, by decide, rfl, tmo_46, fun h => absurd h (by decide)⟩
set_option maxRecDepth 100000 in
theorem tmo_47 : xmok cX3_set 5 xm_47 := xmok_of (by decide +kernel)
theorem tm_47 : Pm (xm_47, yX3_set, cX3_set, 5) := ⟨rfl, ⟨by decide +kernel, (xTs_in (tin_4 _ (List.mem_of_getElem? (i := 54) rfl)) rfl)⟩, by decide, rfl, tmo_47, fun h => absurd h (by decide)⟩
set_option maxRecDepth 100000 in
theorem tmo_48 : xmok cX3_hasPart 4 xm_48 := xmok_of (by decide +kernel)
theorem tm_48 : Pm (xm_48, yX3_hasPart, cX3_hasPart, 4) := ⟨rfl, ⟨by decide +kernel, (xTs_in (tin_4 _ (List.mem_of_getElem? (i := 62) rfl)) rfl)⟩, by decide, rfl, tmo_48, fun h => absurd h (by decide)⟩
set_option maxRecDepth 100000 in
theorem tmo_49 : xmok cX3_move 6 xm_49 := xmok_of (by decide +kernel)
theorem tm_49 : Pm (xm_49, yX3_move, cX3_move, 6) := ⟨rfl, ⟨by decide +kernel, (xTs_in (tin_4 _ (List.mem_of_getElem? (i := 66) rfl)) rfl)⟩, by decide, rfl, tmo_49, fun h => absurd h (by decide)⟩
set_option maxRecDepth 100000 in
theorem tmo_50 : xmok cX4_hasRoom 2 xm_50 := xmok_of (by decide +kernel)
theorem tm_50 : Pm (xm_50, yX4_hasRoom, cX4_hasRoom, 2) := ⟨rfl, ⟨by decide +kernel, (xTs_in (tin_3 _ (List.mem_of_getElem? (i := 107) rfl)) rfl)⟩, by decide, rfl, tmo_50, fun h => absurd h (by decide)⟩
set_option maxRecDepth 100000 in
theorem tmo_51 : xmok cX4_append 4 xm_51 := xmok_of (by decide +kernel)
theorem tm_51 : Pm (xm_51, yX4_append, cX4_append, 4) := ⟨rfl, ⟨by decide +kernel, (xTs_in (tin_3 _ (List.mem_of_getElem? (i := 111) rfl)) rfl)⟩, by decide, rfl, tmo_51, fun h => absurd h (by decide)⟩
set_option maxRecDepth 100000 in
theorem tmo_52 : xmok cX4_empty 2 xm_52 := xmok_of (by decide +kernel)
theorem tm_52 : Pm (xm_52, yX4_empty, cX4_empty, 2) := ⟨rfl, ⟨by decide +kernel, (xTs_in (tin_3 _ (List.mem_of_getElem? (i := 119) rfl)) rfl)⟩, by decide, rfl, tmo_52, fun h => absurd h (by decide)⟩
set_option maxRecDepth 100000 in
theorem tmo_53 : xmok cX4_readOnto 3 xm_53 := xmok_of (by decide +kernel)
theorem tm_53 : Pm (xm_53, yX4_readOnto, cX4_readOnto, 3) := ⟨rfl, ⟨by decide +kernel, (xTs_in (tin_3 _ (List.mem_of_getElem? (i := 132) rfl)) rfl)⟩, by decide, rfl, tmo_53, fun h => absurd h (by decide)⟩
set_option maxRecDepth 100000 in
theorem tmo_54 : xmok cX4_readItem 2 xm_54 := xmok_of (by decide +kernel)
theorem tm_54 : Pm (xm_54, yX4_readItem, cX4_readItem, 2) := ⟨rfl, ⟨by decide +kernel, (xTs_in (tin_3 _ (List.mem_of_getElem? (i := 231) rfl)) rfl)⟩, by decide, rfl, tmo_54, fun h => absurd h (by decide)⟩
set_option maxRecDepth 100000 in
theorem tmo_55 : xmok cX4_readBow 3 xm_55 := xmok_of (by decide +kernel)
theorem tm_55 : Pm (xm_55, yX4_readBow, cX4_readBow, 3) := ⟨rfl, ⟨by decide +kernel, (xTs_in (tin_3 _ (List.mem_of_getElem? (i := 236) rfl)) rfl)⟩, by decide, rfl, tmo_55, fun h => absurd h (by decide)⟩
set_option maxRecDepth 100000 in
theorem tmo_56 : xmok cX4_readPart 6 xm_56 := xmok_of (by decide +kernel)
theorem tm_56 : Pm (xm_56, yX4_readPart, cX4_readPart, 6) := ⟨rfl, ⟨by decide +kernel, (xTs_in (tin_4 _ (List.mem_of_getElem? (i := 1) rfl)) rfl)⟩, by decide, rfl, tmo_56, fun h => absurd h (by decide)⟩
set_option maxRecDepth 100000 in
theorem tmo_57 : xmok cX4_readRule 3 xm_57 := xmok_of (by decide +kernel)
theorem tm_57 : Pm (xm_57, yX4_readRule, cX4_readRule, 3) := ⟨rfl, ⟨by decide +kernel, (xTs_in (tin_4 _ (List.mem_of_getElem? (i := 9) rfl)) rfl)⟩, by decide, rfl, tmo_57, fun h => absurd h (by decide)⟩
set_option maxRecDepth 100000 in
theorem tmo_58 : xmok cX4_readContract 3 xm_58 := xmok_of (by decide +kernel)
theorem tm_58 : Pm (xm_58, yX4_readContract, cX4_readContract, 3) := ⟨rfl, ⟨by decide +kernel, (xTs_in (tin_4 _ (List.mem_of_getElem? (i := 14) rfl)) rfl)⟩, by decide, rfl, tmo_58, fun h => absurd h (by decide)⟩
set_option maxRecDepth 100000 in
theorem tmo_59 : xmok cX4_isNumber 3 xm_59 := xmok_of (by decide +kernel)
theorem tm_59 : Pm (xm_59, yX4_isNumber, cX4_isNumber, 3) := ⟨rfl, ⟨by decide +kernel, (xTs_in (tin_4 _ (List.mem_of_getElem? (i := 5) rfl)) rfl)⟩, by decide, rfl, tmo_59, fun h => absurd h (by decide)⟩
set_option maxRecDepth 100000 in
theorem tmo_60 : xmok cX4_cut 5 xm_60 := xmok_of (by decide +kernel)
theorem tm_60 : Pm (xm_60, yX4_cut, cX4_cut, 5) := ⟨rfl, ⟨by decide +kernel, (xTs_in (tin_3 _ (List.mem_of_getElem? (i := 136) rfl)) rfl)⟩, by decide, rfl, tmo_60, fun h => absurd h (by decide)⟩
set_option maxRecDepth 100000 in
theorem tmo_61 : xmok cX4_valueOf 2 xm_61 := xmok_of (by decide +kernel)
theorem tm_61 : Pm (xm_61, yX4_valueOf, cX4_valueOf, 2) := ⟨rfl, ⟨by decide +kernel, (xTs_in (tin_3 _ (List.mem_of_getElem? (i := 143) rfl)) rfl)⟩, by decide, rfl, tmo_61, fun h => absurd h (by decide)⟩
set_option maxRecDepth 100000 in
theorem tmo_62 : xmok cX4_sortOf 1 xm_62 := xmok_of (by decide +kernel)
theorem tm_62 : Pm (xm_62, yX4_sortOf, cX4_sortOf, 1) := ⟨rfl, ⟨by decide +kernel, (xTs_in (tin_3 _ (List.mem_of_getElem? (i := 139) rfl)) rfl)⟩, by decide, rfl, tmo_62, fun h => absurd h (by decide)⟩
set_option maxRecDepth 100000 in
theorem tmo_63 : xmok cX4_take 2 xm_63 := xmok_of (by decide +kernel)
theorem tm_63 : Pm (xm_63, yX4_take, cX4_take, 2) := ⟨rfl, ⟨by decide +kernel, (xTs_in (tin_3 _ (List.mem_of_getElem? (i := 227) rfl)) rfl)⟩, by decide, rfl, tmo_63, fun h => absurd h (by decide)⟩
set_option maxRecDepth 100000 in
theorem tmo_64 : xmok cX4_wordAt 4 xm_64 := xmok_of (by decide +kernel)
theorem tm_64 : Pm (xm_64, yX4_wordAt, cX4_wordAt, 4) := ⟨rfl, ⟨by decide +kernel, (xTs_in (tin_3 _ (List.mem_of_getElem? (i := 147) rfl)) rfl)⟩, by decide, rfl, tmo_64, fun h => absurd h (by decide)⟩
set_option maxRecDepth 100000 in
theorem tmo_65 : xmok cX4_isWord 5 xm_65 := xmok_of (by decide +kernel)
theorem tm_65 : Pm (xm_65, yX4_isWord, cX4_isWord, 5) := ⟨rfl, ⟨by decide +kernel, (xTs_in (tin_3 _ (List.mem_of_getElem? (i := 170) rfl)) rfl)⟩, by decide, rfl, tmo_65, fun h => absurd h (by decide)⟩
set_option maxRecDepth 100000 in
theorem tmo_66 : xmok cX4_numberAt 5 xm_66 := xmok_of (by decide +kernel)
theorem tm_66 : Pm (xm_66, yX4_numberAt, cX4_numberAt, 5) := ⟨rfl, ⟨by decide +kernel, (xTs_in (tin_3 _ (List.mem_of_getElem? (i := 222) rfl)) rfl)⟩, by decide, rfl, tmo_66, fun h => absurd h (by decide)⟩
set_option maxRecDepth 100000 in
theorem tmo_67 : xmok cX4_spelled 1 xm_67 := xmok_of (by decide +kernel)
theorem tm_67 : Pm (xm_67, yX4_spelled, cX4_spelled, 1) := ⟨rfl, ⟨by decide +kernel, (xTs_in (tin_3 _ (List.mem_of_getElem? (i := 150) rfl)) rfl)⟩, by decide, rfl, tmo_67, fun h => absurd h (by decide)⟩
set_option maxRecDepth 100000 in
theorem tmo_68 : xmok cX5_bow 2 xm_68 := xmok_of (by decide +kernel)
theorem tm_68 : Pm (xm_68, yX5_bow, cX5_bow, 2) := ⟨rfl, ⟨by decide +kernel, (xTs_in (tin_2 _ (List.mem_of_getElem? (i := 4) rfl)) rfl)⟩, by decide, rfl, tmo_68, fun h => absurd h (by decide)⟩
set_option maxRecDepth 100000 in
theorem tmo_69 : xmok cX5_of 3 xm_69 := xmok_of (by decide +kernel)
theorem tm_69 : Pm (xm_69, yX5_of, cX5_of, 3) := ⟨rfl, ⟨by decide +kernel, (xTs_in (tin_2 _ (List.mem_of_getElem? (i := 20) rfl)) rfl)⟩, by decide, rfl, tmo_69, fun h => absurd h (by decide)⟩
set_option maxRecDepth 100000 in
theorem tmo_70 : xmok cX5_change 4 xm_70 := xmok_of (by decide +kernel)
theorem tm_70 : Pm (xm_70, yX5_change, cX5_change, 4) := ⟨rfl, ⟨by decide +kernel, (xTs_in (tin_2 _ (List.mem_of_getElem? (i := 60) rfl)) rfl)⟩, by decide, rfl, tmo_70, fun h => absurd h (by decide)⟩
set_option maxRecDepth 100000 in
theorem tmo_71 : xmok cX5_contract 6 xm_71 := xmok_of (by decide +kernel)
theorem tm_71 : Pm (xm_71, yX5_contract, cX5_contract, 6) := ⟨rfl, ⟨by decide +kernel, (xTs_in (tin_2 _ (List.mem_of_getElem? (i := 72) rfl)) rfl)⟩, by decide, rfl, tmo_71, fun h => absurd h (by decide)⟩
set_option maxRecDepth 100000 in
theorem tmo_72 : xmok cX5_rule 3 xm_72 := xmok_of (by decide +kernel)
theorem tm_72 : Pm (xm_72, yX5_rule, cX5_rule, 3) := ⟨rfl, ⟨by decide +kernel, (xTs_in (tin_2 _ (List.mem_of_getElem? (i := 76) rfl)) rfl)⟩, by decide, rfl, tmo_72, fun h => absurd h (by decide)⟩
set_option maxRecDepth 100000 in
theorem tmo_73 : xmok cX5_noise 3 xm_73 := xmok_of (by decide +kernel)
theorem tm_73 : Pm (xm_73, yX5_noise, cX5_noise, 3) := ⟨rfl, ⟨by decide +kernel, (xTs_in (tin_2 _ (List.mem_of_getElem? (i := 82) rfl)) rfl)⟩, by decide, rfl, tmo_73, fun h => absurd h (by decide)⟩
set_option maxRecDepth 100000 in
theorem tmo_74 : xmok cX5_come 2 xm_74 := xmok_of (by decide +kernel)
theorem tm_74 : Pm (xm_74, yX5_come, cX5_come, 2) := ⟨rfl, ⟨by decide +kernel, (xTs_in (tin_2 _ (List.mem_of_getElem? (i := 86) rfl)) rfl)⟩, by decide, rfl, tmo_74, fun h => absurd h (by decide)⟩
set_option maxRecDepth 100000 in
theorem tmo_75 : xmok cX5_back 1 xm_75 := xmok_of (by decide +kernel)
theorem tm_75 : Pm (xm_75, yX5_back, cX5_back, 1) := ⟨rfl, ⟨by decide +kernel, (xTs_in (tin_2 _ (List.mem_of_getElem? (i := 101) rfl)) rfl)⟩, by decide, rfl, tmo_75, fun h => absurd h (by decide)⟩
set_option maxRecDepth 100000 in
theorem tmo_76 : xmok cX5_clear 2 xm_76 := xmok_of (by decide +kernel)
theorem tm_76 : Pm (xm_76, yX5_clear, cX5_clear, 2) := ⟨rfl, ⟨by decide +kernel, (xTs_in (tin_2 _ (List.mem_of_getElem? (i := 109) rfl)) rfl)⟩, by decide, rfl, tmo_76, fun h => absurd h (by decide)⟩
set_option maxRecDepth 100000 in
theorem tmo_77 : xmok cX5_stood 2 xm_77 := xmok_of (by decide +kernel)
theorem tm_77 : Pm (xm_77, yX5_stood, cX5_stood, 2) := ⟨rfl, ⟨by decide +kernel, (xTs_in (tin_2 _ (List.mem_of_getElem? (i := 117) rfl)) rfl)⟩, by decide, rfl, tmo_77, fun h => absurd h (by decide)⟩
set_option maxRecDepth 100000 in
theorem tmo_78 : xmok cX5_now 2 xm_78 := xmok_of (by decide +kernel)
theorem tm_78 : Pm (xm_78, yX5_now, cX5_now, 2) := ⟨rfl, ⟨by decide +kernel, (xTs_in (tin_2 _ (List.mem_of_getElem? (i := 121) rfl)) rfl)⟩, by decide, rfl, tmo_78, fun h => absurd h (by decide)⟩
set_option maxRecDepth 100000 in
theorem tmo_79 : xmok cX5_best 3 xm_79 := xmok_of (by decide +kernel)
theorem tm_79 : Pm (xm_79, yX5_best, cX5_best, 3) := ⟨rfl, ⟨by decide +kernel, (xTs_in (tin_2 _ (List.mem_of_getElem? (i := 134) rfl)) rfl)⟩, by decide, rfl, tmo_79, fun h => absurd h (by decide)⟩
set_option maxRecDepth 100000 in
theorem tmo_80 : xmok cX5_ith 3 xm_80 := xmok_of (by decide +kernel)
theorem tm_80 : Pm (xm_80, yX5_ith, cX5_ith, 3) := ⟨rfl, ⟨by decide +kernel, (xTs_in (tin_2 _ (List.mem_of_getElem? (i := 177) rfl)) rfl)⟩, by decide, rfl, tmo_80, fun h => absurd h (by decide)⟩
set_option maxRecDepth 100000 in
theorem tmo_81 : xmok cX5_ways 1 xm_81 := xmok_of (by decide +kernel)
theorem tm_81 : Pm (xm_81, yX5_ways, cX5_ways, 1) := ⟨rfl, ⟨by decide +kernel, (xTs_in (tin_2 _ (List.mem_of_getElem? (i := 201) rfl)) rfl)⟩, by decide, rfl, tmo_81, fun h => absurd h (by decide)⟩
set_option maxRecDepth 100000 in
theorem tmo_82 : xmok cX5_lasts 1 xm_82 := xmok_of (by decide +kernel)
theorem tm_82 : Pm (xm_82, yX5_lasts, cX5_lasts, 1) := ⟨rfl, ⟨by decide +kernel, (xTs_in (tin_2 _ (List.mem_of_getElem? (i := 209) rfl)) rfl)⟩, by decide, rfl, tmo_82, fun h => absurd h (by decide)⟩
set_option maxRecDepth 100000 in
theorem tmo_83 : xmok cX5_place 3 xm_83 := xmok_of (by decide +kernel)
theorem tm_83 : Pm (xm_83, yX5_place, cX5_place, 3) := ⟨rfl, ⟨by decide +kernel, (xTs_in (tin_2 _ (List.mem_of_getElem? (i := 217) rfl)) rfl)⟩, by decide, rfl, tmo_83, fun h => absurd h (by decide)⟩
set_option maxRecDepth 100000 in
theorem tmo_84 : xmok cX5_all 2 xm_84 := xmok_of (by decide +kernel)
theorem tm_84 : Pm (xm_84, yX5_all, cX5_all, 2) := ⟨rfl, ⟨by decide +kernel, (xTs_in (tin_2 _ (List.mem_of_getElem? (i := 237) rfl)) rfl)⟩, by decide, rfl, tmo_84, fun h => absurd h (by decide)⟩
set_option maxRecDepth 100000 in
theorem tmo_85 : xmok cX5_clash 3 xm_85 := xmok_of (by decide +kernel)
theorem tm_85 : Pm (xm_85, yX5_clash, cX5_clash, 3) := ⟨rfl, ⟨by decide +kernel, (xTs_in (tin_3 _ (List.mem_of_getElem? (i := 2) rfl)) rfl)⟩, by decide, rfl, tmo_85, fun h => absurd h (by decide)⟩
set_option maxRecDepth 100000 in
theorem tmo_86 : xmok cX5_broken 1 xm_86 := xmok_of (by decide +kernel)
theorem tm_86 : Pm (xm_86, yX5_broken, cX5_broken, 1) := ⟨rfl, ⟨by decide +kernel, (xTs_in (tin_3 _ (List.mem_of_getElem? (i := 6) rfl)) rfl)⟩, by decide, rfl, tmo_86, fun h => absurd h (by decide)⟩
set_option maxRecDepth 100000 in
theorem tmo_87 : xmok cX5_between 7 xm_87 := xmok_of (by decide +kernel)
theorem tm_87 : Pm (xm_87, yX5_between, cX5_between, 7) := ⟨rfl, ⟨by decide +kernel, (xTs_in (tin_3 _ (List.mem_of_getElem? (i := 18) rfl)) rfl)⟩, by decide, rfl, tmo_87, fun h => absurd h (by decide)⟩
set_option maxRecDepth 100000 in
theorem tmo_88 : xmok cX5_kindFor 2 xm_88 := xmok_of (by decide +kernel)
theorem tm_88 : Pm (xm_88, yX5_kindFor, cX5_kindFor, 2) := ⟨rfl, ⟨by decide +kernel, (xTs_in (tin_3 _ (List.mem_of_getElem? (i := 22) rfl)) rfl)⟩, by decide, rfl, tmo_88, fun h => absurd h (by decide)⟩
set_option maxRecDepth 100000 in
theorem tmo_89 : xmok cX5_freed 1 xm_89 := xmok_of (by decide +kernel)
theorem tm_89 : Pm (xm_89, yX5_freed, cX5_freed, 1) := ⟨rfl, ⟨by decide +kernel, (xTs_in (tin_3 _ (List.mem_of_getElem? (i := 30) rfl)) rfl)⟩, by decide, rfl, tmo_89, fun h => absurd h (by decide)⟩
set_option maxRecDepth 100000 in
theorem tmo_90 : xmok cX5_free 1 xm_90 := xmok_of (by decide +kernel)
theorem tm_90 : Pm (xm_90, yX5_free, cX5_free, 1) := ⟨rfl, ⟨by decide +kernel, (xTs_in (tin_3 _ (List.mem_of_getElem? (i := 39) rfl)) rfl)⟩, by decide, rfl, tmo_90, fun h => absurd h (by decide)⟩
set_option maxRecDepth 100000 in
theorem tmo_91 : xmok cX5_train 4 xm_91 := xmok_of (by decide +kernel)
theorem tm_91 : Pm (xm_91, yX5_train, cX5_train, 4) := ⟨rfl, ⟨by decide +kernel, (xTs_in (tin_3 _ (List.mem_of_getElem? (i := 43) rfl)) rfl)⟩, by decide, rfl, tmo_91, fun h => absurd h (by decide)⟩
set_option maxRecDepth 100000 in
theorem tmo_92 : xmok cX5_fits 6 xm_92 := xmok_of (by decide +kernel)
theorem tm_92 : Pm (xm_92, yX5_fits, cX5_fits, 6) := ⟨rfl, ⟨by decide +kernel, (xTs_in (tin_3 _ (List.mem_of_getElem? (i := 47) rfl)) rfl)⟩, by decide, rfl, tmo_92, fun h => absurd h (by decide)⟩
set_option maxRecDepth 100000 in
theorem tmo_93 : xmok cX5_love 5 xm_93 := xmok_of (by decide +kernel)
theorem tm_93 : Pm (xm_93, yX5_love, cX5_love, 5) := ⟨rfl, ⟨by decide +kernel, (xTs_in (tin_3 _ (List.mem_of_getElem? (i := 52) rfl)) rfl)⟩, by decide, rfl, tmo_93, fun h => absurd h (by decide)⟩
set_option maxRecDepth 100000 in
theorem tmo_94 : xmok cX5_curtain 8 xm_94 := xmok_of (by decide +kernel)
theorem tm_94 : Pm (xm_94, yX5_curtain, cX5_curtain, 8) := ⟨rfl, ⟨by decide +kernel, (xTs_in (tin_3 _ (List.mem_of_getElem? (i := 56) rfl)) rfl)⟩, by decide, rfl, tmo_94, fun h => absurd h (by decide)⟩
set_option maxRecDepth 100000 in
theorem tmo_95 : xmok cX5_stop 2 xm_95 := xmok_of (by decide +kernel)
theorem tm_95 : Pm (xm_95, yX5_stop, cX5_stop, 2) := ⟨rfl, ⟨by decide +kernel, (xTs_in (tin_3 _ (List.mem_of_getElem? (i := 78) rfl)) rfl)⟩, by decide, rfl, tmo_95, fun h => absurd h (by decide)⟩
set_option maxRecDepth 100000 in
theorem tmo_96 : xmok cX5_evening 4 xm_96 := xmok_of (by decide +kernel)
theorem tm_96 : Pm (xm_96, yX5_evening, cX5_evening, 4) := ⟨rfl, ⟨by decide +kernel, (xTs_in (tin_3 _ (List.mem_of_getElem? (i := 82) rfl)) rfl)⟩, by decide, rfl, tmo_96, fun h => absurd h (by decide)⟩
set_option maxRecDepth 100000 in
theorem tmo_97 : xmok cX5_lot 5 xm_97 := xmok_of (by decide +kernel)
theorem tm_97 : Pm (xm_97, yX5_lot, cX5_lot, 5) := ⟨rfl, ⟨by decide +kernel, (xTs_in (tin_3 _ (List.mem_of_getElem? (i := 91) rfl)) rfl)⟩, by decide, rfl, tmo_97, fun h => absurd h (by decide)⟩
set_option maxRecDepth 100000 in
theorem tmo_98 : xmok cX5_seed 3 xm_98 := xmok_of (by decide +kernel)
theorem tm_98 : Pm (xm_98, yX5_seed, cX5_seed, 3) := ⟨rfl, ⟨by decide +kernel, (xTs_in (tin_3 _ (List.mem_of_getElem? (i := 99) rfl)) rfl)⟩, by decide, rfl, tmo_98, fun h => absurd h (by decide)⟩
set_option maxRecDepth 100000 in
theorem tmo_99 : xmok cX5_feed 3 xm_99 := xmok_of (by decide +kernel)
theorem tm_99 : Pm (xm_99, yX5_feed, cX5_feed, 3) := ⟨rfl, ⟨by decide +kernel, (xTs_in (tin_3 _ (List.mem_of_getElem? (i := 103) rfl)) rfl)⟩, by decide, rfl, tmo_99, fun h => absurd h (by decide)⟩
set_option maxRecDepth 100000 in
theorem tmo_100 : xmok cX5_wipe 1 xm_100 := xmok_of (by decide +kernel)
theorem tm_100 : Pm (xm_100, yX5_wipe, cX5_wipe, 1) := ⟨rfl, ⟨by decide +kernel, (xTs_in (tin_3 _ (List.mem_of_getElem? (i := 115) rfl)) rfl)⟩, by decide, rfl, tmo_100, fun h => absurd h (by decide)⟩
set_option maxRecDepth 100000 in
theorem tmo_101 : xmok cX5_text 2 xm_101 := xmok_of (by decide +kernel)
theorem tm_101 : Pm (xm_101, yX5_text, cX5_text, 2) := ⟨rfl, ⟨by decide +kernel, (xTs_in (tin_3 _ (List.mem_of_getElem? (i := 123) rfl)) rfl)⟩, by decide, rfl, tmo_101, fun h => absurd h (by decide)⟩
set_option maxRecDepth 100000 in
theorem tmo_102 : xmok cX5_hold 3 xm_102 := xmok_of (by decide +kernel)
theorem tm_102 : Pm (xm_102, yX5_hold, cX5_hold, 3) := ⟨rfl, ⟨by decide +kernel, (xTs_in (tin_4 _ (List.mem_of_getElem? (i := 19) rfl)) rfl)⟩, by decide, rfl, tmo_102, fun h => absurd h (by decide)⟩
set_option maxRecDepth 100000 in
theorem tmo_103 : xmok cX5_as 4 xm_103 := xmok_of (by decide +kernel)
theorem tm_103 : Pm (xm_103, yX5_as, cX5_as, 4) := ⟨rfl, ⟨by decide +kernel, (xTs_in (tin_4 _ (List.mem_of_getElem? (i := 23) rfl)) rfl)⟩, by decide, rfl, tmo_103, fun h => absurd h (by decide)⟩
set_option maxRecDepth 100000 in
theorem tmo_104 : xmok cX5_sheet 4 xm_104 := xmok_of (by decide +kernel)
theorem tm_104 : Pm (xm_104, yX5_sheet, cX5_sheet, 4) := ⟨rfl, ⟨by decide +kernel, (xTs_in (tin_4 _ (List.mem_of_getElem? (i := 32) rfl)) rfl)⟩, by decide, rfl, tmo_104, fun h => absurd h (by decide)⟩
set_option maxRecDepth 100000 in
theorem tmo_105 : xmok cX5_write 5 xm_105 := xmok_of (by decide +kernel)
theorem tm_105 : Pm (xm_105, yX5_write, cX5_write, 5) := ⟨rfl, ⟨by decide +kernel, (xTs_in (tin_4 _ (List.mem_of_getElem? (i := 45) rfl)) rfl)⟩, by decide, rfl, tmo_105, fun h => absurd h (by decide)⟩
set_option maxRecDepth 100000 in
theorem tmo_106 : xmok cX5_copy 6 xm_106 := xmok_of (by decide +kernel)
theorem tm_106 : Pm (xm_106, yX5_copy, cX5_copy, 6) := ⟨rfl, ⟨by decide +kernel, (xTs_in (tin_4 _ (List.mem_of_getElem? (i := 58) rfl)) rfl)⟩, by decide, rfl, tmo_106, fun h => absurd h (by decide)⟩
set_option maxRecDepth 100000 in
theorem tmo_107 : xmok cX5_load 5 xm_107 := xmok_of (by decide +kernel)
theorem tm_107 : Pm (xm_107, yX5_load, cX5_load, 5) := ⟨rfl, ⟨by decide +kernel, (xTs_in (tin_4 _ (List.mem_of_getElem? (i := 71) rfl)) rfl)⟩, by decide, rfl, tmo_107, fun h => absurd h (by decide)⟩
set_option maxRecDepth 100000 in
theorem tmo_108 : xmok cX5_judge 3 xm_108 := xmok_of (by decide +kernel)
theorem tm_108 : Pm (xm_108, yX5_judge, cX5_judge, 3) := ⟨rfl, ⟨by decide +kernel, (xTs_in (tin_4 _ (List.mem_of_getElem? (i := 79) rfl)) rfl)⟩, by decide, rfl, tmo_108, fun h => absurd h (by decide)⟩
set_option maxRecDepth 100000 in
theorem tmo_109 : xmok cX5_loud 7 xm_109 := xmok_of (by decide +kernel)
theorem tm_109 : Pm (xm_109, yX5_loud, cX5_loud, 7) := ⟨rfl, ⟨by decide +kernel, (xTs_in (tin_4 _ (List.mem_of_getElem? (i := 87) rfl)) rfl)⟩, by decide, rfl, tmo_109, fun h => absurd h (by decide)⟩
set_option maxRecDepth 100000 in
theorem tmo_110 : xmok cX5_image 1 xm_110 := xmok_of (by decide +kernel)
theorem tm_110 : Pm (xm_110, yX5_image, cX5_image, 1) := ⟨rfl, ⟨by decide +kernel, (xTs_in (tin_4 _ (List.mem_of_getElem? (i := 91) rfl)) rfl)⟩, by decide, rfl, tmo_110, fun h => absurd h (by decide)⟩
set_option maxRecDepth 100000 in
theorem tmo_111 : xmok cX5_undo 1 xm_111 := xmok_of (by decide +kernel)
theorem tm_111 : Pm (xm_111, yX5_undo, cX5_undo, 1) := ⟨rfl, ⟨by decide +kernel, (xTs_in (tin_4 _ (List.mem_of_getElem? (i := 95) rfl)) rfl)⟩, by decide, rfl, tmo_111, fun h => absurd h (by decide)⟩
set_option maxRecDepth 100000 in
theorem tmo_112 : xmok cX5_tear 2 xm_112 := xmok_of (by decide +kernel)
theorem tm_112 : Pm (xm_112, yX5_tear, cX5_tear, 2) := ⟨rfl, ⟨by decide +kernel, (xTs_in (tin_4 _ (List.mem_of_getElem? (i := 99) rfl)) rfl)⟩, by decide, rfl, tmo_112, fun h => absurd h (by decide)⟩
set_option maxRecDepth 100000 in
theorem tmo_113 : xmok cX5_count 2 xm_113 := xmok_of (by decide +kernel)
theorem tm_113 : Pm (xm_113, yX5_count, cX5_count, 2) := ⟨rfl, ⟨by decide +kernel, (xTs_in (tin_4 _ (List.mem_of_getElem? (i := 103) rfl)) rfl)⟩, by decide, rfl, tmo_113, fun h => absurd h (by decide)⟩
set_option maxRecDepth 100000 in
theorem tmo_114 : xmok cX5_status 4 xm_114 := xmok_of (by decide +kernel)
theorem tm_114 : Pm (xm_114, yX5_status, cX5_status, 4) := ⟨rfl, ⟨by decide +kernel, (xTs_in (tin_4 _ (List.mem_of_getElem? (i := 120) rfl)) rfl)⟩, by decide, rfl, tmo_114, fun h => absurd h (by decide)⟩
set_option maxRecDepth 100000 in
theorem tmo_115 : xmok cX5_finding 2 xm_115 := xmok_of (by decide +kernel)
theorem tm_115 : Pm (xm_115, yX5_finding, cX5_finding, 2) := ⟨rfl, ⟨by decide +kernel, (xTs_in (tin_2 _ (List.mem_of_getElem? (i := 11) rfl)) rfl)⟩, by decide, rfl, tmo_115, fun h => absurd h (by decide)⟩
set_option maxRecDepth 100000 in
theorem tmo_116 : xmok cX5_isIn 3 xm_116 := xmok_of (by decide +kernel)
theorem tm_116 : Pm (xm_116, yX5_isIn, cX5_isIn, 3) := ⟨rfl, ⟨by decide +kernel, (xTs_in (tin_2 _ (List.mem_of_getElem? (i := 7) rfl)) rfl)⟩, by decide, rfl, tmo_116, fun h => absurd h (by decide)⟩
set_option maxRecDepth 100000 in
theorem tmo_117 : xmok cX5_put 4 xm_117 := xmok_of (by decide +kernel)
theorem tm_117 : Pm (xm_117, yX5_put, cX5_put, 4) := ⟨rfl, ⟨by decide +kernel, (xTs_in (tin_2 _ (List.mem_of_getElem? (i := 63) rfl)) rfl)⟩, by decide, rfl, tmo_117, fun h => absurd h (by decide)⟩
set_option maxRecDepth 100000 in
theorem tmo_118 : xmok cX5_memberOf 4 xm_118 := xmok_of (by decide +kernel)
theorem tm_118 : Pm (xm_118, yX5_memberOf, cX5_memberOf, 4) := ⟨rfl, ⟨by decide +kernel, (xTs_in (tin_3 _ (List.mem_of_getElem? (i := 95) rfl)) rfl)⟩, by decide, rfl, tmo_118, fun h => absurd h (by decide)⟩
set_option maxRecDepth 100000 in
theorem tmo_119 : xmok cX5_gainAt 2 xm_119 := xmok_of (by decide +kernel)
theorem tm_119 : Pm (xm_119, yX5_gainAt, cX5_gainAt, 2) := ⟨rfl, ⟨by decide +kernel, (xTs_in (tin_3 _ (List.mem_of_getElem? (i := 65) rfl)) rfl)⟩, by decide, rfl, tmo_119, fun h => absurd h (by decide)⟩
set_option maxRecDepth 100000 in
theorem tmo_120 : xmok cX5_partsFrom 4 xm_120 := xmok_of (by decide +kernel)
theorem tm_120 : Pm (xm_120, yX5_partsFrom, cX5_partsFrom, 4) := ⟨rfl, ⟨by decide +kernel, (xTs_in (tin_3 _ (List.mem_of_getElem? (i := 72) rfl)) rfl)⟩, by decide, rfl, tmo_120, fun h => absurd h (by decide)⟩
set_option maxRecDepth 100000 in
theorem tmo_121 : xmok cX5_worth 12 xm_121 := xmok_of (by decide +kernel)
theorem tm_121 : Pm (xm_121, yX5_worth, cX5_worth, 12) := ⟨rfl, ⟨by decide +kernel, (xTs_in (tin_3 _ (List.mem_of_getElem? (i := 60) rfl)) rfl)⟩, by decide, rfl, tmo_121, fun h => absurd h (by decide)⟩
set_option maxRecDepth 100000 in
theorem tmo_122 : xmok cX5_firstThatCannot 5 xm_122 := xmok_of (by decide +kernel)
theorem tm_122 : Pm (xm_122, yX5_firstThatCannot, cX5_firstThatCannot, 5) := ⟨rfl, ⟨by decide +kernel, (xTs_in (tin_4 _ (List.mem_of_getElem? (i := 83) rfl)) rfl)⟩, by decide, rfl, tmo_122, fun h => absurd h (by decide)⟩
set_option maxRecDepth 100000 in
theorem tmo_123 : xmok cX6_no 2 xm_123 := xmok_of (by decide +kernel)
theorem tm_123 : Pm (xm_123, yX6_no, cX6_no, 2) := ⟨rfl, ⟨by decide +kernel, (xTs_in (tin_4 _ (List.mem_of_getElem? (i := 214) rfl)) rfl)⟩, by decide, rfl, tmo_123, fun h => absurd h (by decide)⟩
set_option maxRecDepth 100000 in
theorem tmo_124 : xmok cX6_in1 3 xm_124 := xmok_of (by decide +kernel)
theorem tm_124 : Pm (xm_124, yX6_in1, cX6_in1, 3) := ⟨rfl, ⟨by decide +kernel, (xTs_in (tin_4 _ (List.mem_of_getElem? (i := 210) rfl)) rfl)⟩, by decide, rfl, tmo_124, fun h => absurd h (by decide)⟩
set_option maxRecDepth 100000 in
theorem tmo_125 : xmok cX6_most 2 xm_125 := xmok_of (by decide +kernel)
theorem tm_125 : Pm (xm_125, yX6_most, cX6_most, 2) := ⟨rfl, ⟨by decide +kernel, (xTs_in (tin_5 _ (List.mem_of_getElem? (i := 6) rfl)) rfl)⟩, by decide, rfl, tmo_125, fun h => absurd h (by decide)⟩
set_option maxRecDepth 100000 in
theorem tmo_126 : xmok cX6_bits 3 xm_126 := xmok_of (by decide +kernel)
theorem tm_126 : Pm (xm_126, yX6_bits, cX6_bits, 3) := ⟨rfl, ⟨by decide +kernel, (xTs_in (tin_5 _ (List.mem_of_getElem? (i := 131) rfl)) rfl)⟩, by decide, rfl, tmo_126, fun h => absurd h (by decide)⟩
set_option maxRecDepth 100000 in
theorem tmo_127 : xmok cX6_isIn 2 xm_127 := xmok_of (by decide +kernel)
theorem tm_127 : Pm (xm_127, yX6_isIn, cX6_isIn, 2) := ⟨rfl, ⟨by decide +kernel, (xTs_in (tin_5 _ (List.mem_of_getElem? (i := 36) rfl)) rfl)⟩, by decide, rfl, tmo_127, fun h => absurd h (by decide)⟩
set_option maxRecDepth 100000 in
theorem tmo_128 : xmok cX6_isBow 2 xm_128 := xmok_of (by decide +kernel)
theorem tm_128 : Pm (xm_128, yX6_isBow, cX6_isBow, 2) := ⟨rfl, ⟨by decide +kernel, (xTs_in (tin_4 _ (List.mem_of_getElem? (i := 231) rfl)) rfl)⟩, by decide, rfl, tmo_128, fun h => absurd h (by decide)⟩
set_option maxRecDepth 100000 in
theorem tmo_129 : xmok cX6_get 3 xm_129 := xmok_of (by decide +kernel)
theorem tm_129 : Pm (xm_129, yX6_get, cX6_get, 3) := ⟨rfl, ⟨by decide +kernel, (xTs_in (tin_4 _ (List.mem_of_getElem? (i := 235) rfl)) rfl)⟩, by decide, rfl, tmo_129, fun h => absurd h (by decide)⟩
set_option maxRecDepth 100000 in
theorem tmo_130 : xmok cX6_puts 4 xm_130 := xmok_of (by decide +kernel)
theorem tm_130 : Pm (xm_130, yX6_puts, cX6_puts, 4) := ⟨rfl, ⟨by decide +kernel, (xTs_in (tin_4 _ (List.mem_of_getElem? (i := 223) rfl)) rfl)⟩, by decide, rfl, tmo_130, fun h => absurd h (by decide)⟩
set_option maxRecDepth 100000 in
theorem tmo_131 : xmok cX6_allBows 1 xm_131 := xmok_of (by decide +kernel)
theorem tm_131 : Pm (xm_131, yX6_allBows, cX6_allBows, 1) := ⟨rfl, ⟨by decide +kernel, (xTs_in (tin_5 _ (List.mem_of_getElem? (i := 33) rfl)) rfl)⟩, by decide, rfl, tmo_131, fun h => absurd h (by decide)⟩
set_option maxRecDepth 100000 in
theorem tmo_132 : xmok cX6_noiseOf 5 xm_132 := xmok_of (by decide +kernel)
theorem tm_132 : Pm (xm_132, yX6_noiseOf, cX6_noiseOf, 5) := ⟨rfl, ⟨by decide +kernel, (xTs_in (tin_5 _ (List.mem_of_getElem? (i := 25) rfl)) rfl)⟩, by decide, rfl, tmo_132, fun h => absurd h (by decide)⟩
set_option maxRecDepth 100000 in
theorem tmo_133 : xmok cX6_noiseBy 3 xm_133 := xmok_of (by decide +kernel)
theorem tm_133 : Pm (xm_133, yX6_noiseBy, cX6_noiseBy, 3) := ⟨rfl, ⟨by decide +kernel, (xTs_in (tin_5 _ (List.mem_of_getElem? (i := 22) rfl)) rfl)⟩, by decide, rfl, tmo_133, fun h => absurd h (by decide)⟩
set_option maxRecDepth 100000 in
theorem tmo_134 : xmok cX6_leaves 3 xm_134 := xmok_of (by decide +kernel)
theorem tm_134 : Pm (xm_134, yX6_leaves, cX6_leaves, 3) := ⟨rfl, ⟨by decide +kernel, (xTs_in (tin_4 _ (List.mem_of_getElem? (i := 239) rfl)) rfl)⟩, by decide, rfl, tmo_134, fun h => absurd h (by decide)⟩
set_option maxRecDepth 100000 in
theorem tmo_135 : xmok cX6_secondsOf 3 xm_135 := xmok_of (by decide +kernel)
theorem tm_135 : Pm (xm_135, yX6_secondsOf, cX6_secondsOf, 3) := ⟨rfl, ⟨by decide +kernel, (xTs_in (tin_5 _ (List.mem_of_getElem? (i := 3) rfl)) rfl)⟩, by decide, rfl, tmo_135, fun h => absurd h (by decide)⟩
set_option maxRecDepth 100000 in
theorem tmo_136 : xmok cX6_leftBy 2 xm_136 := xmok_of (by decide +kernel)
theorem tm_136 : Pm (xm_136, yX6_leftBy, cX6_leftBy, 2) := ⟨rfl, ⟨by decide +kernel, (xTs_in (tin_5 _ (List.mem_of_getElem? (i := 18) rfl)) rfl)⟩, by decide, rfl, tmo_136, fun h => absurd h (by decide)⟩
set_option maxRecDepth 100000 in
theorem tmo_137 : xmok cX6_whoAt 2 xm_137 := xmok_of (by decide +kernel)
theorem tm_137 : Pm (xm_137, yX6_whoAt, cX6_whoAt, 2) := ⟨rfl, ⟨by decide +kernel, (xTs_in (tin_5 _ (List.mem_of_getElem? (i := 14) rfl)) rfl)⟩, by decide, rfl, tmo_137, fun h => absurd h (by decide)⟩
set_option maxRecDepth 100000 in
theorem tmo_138 : xmok cX6_stageSet 3 xm_138 := xmok_of (by decide +kernel)
theorem tm_138 : Pm (xm_138, yX6_stageSet, cX6_stageSet, 3) := ⟨rfl, ⟨by decide +kernel, (xTs_in (tin_5 _ (List.mem_of_getElem? (i := 59) rfl)) rfl)⟩, by decide, rfl, tmo_138, fun h => absurd h (by decide)⟩
set_option maxRecDepth 100000 in
theorem tmo_139 : xmok cX6_latest 1 xm_139 := xmok_of (by decide +kernel)
theorem tm_139 : Pm (xm_139, yX6_latest, cX6_latest, 1) := ⟨rfl, ⟨by decide +kernel, (xTs_in (tin_5 _ (List.mem_of_getElem? (i := 10) rfl)) rfl)⟩, by decide, rfl, tmo_139, fun h => absurd h (by decide)⟩
set_option maxRecDepth 100000 in
theorem tmo_140 : xmok cX6_canBehind 3 xm_140 := xmok_of (by decide +kernel)
theorem tm_140 : Pm (xm_140, yX6_canBehind, cX6_canBehind, 3) := ⟨rfl, ⟨by decide +kernel, (xTs_in (tin_5 _ (List.mem_of_getElem? (i := 63) rfl)) rfl)⟩, by decide, rfl, tmo_140, fun h => absurd h (by decide)⟩
set_option maxRecDepth 100000 in
theorem tmo_141 : xmok cX6_canSet 4 xm_141 := xmok_of (by decide +kernel)
theorem tm_141 : Pm (xm_141, yX6_canSet, cX6_canSet, 4) := ⟨rfl, ⟨by decide +kernel, (xTs_in (tin_5 _ (List.mem_of_getElem? (i := 87) rfl)) rfl)⟩, by decide, rfl, tmo_141, fun h => absurd h (by decide)⟩
set_option maxRecDepth 100000 in
theorem tmo_142 : xmok cX6_comes 4 xm_142 := xmok_of (by decide +kernel)
theorem tm_142 : Pm (xm_142, yX6_comes, cX6_comes, 4) := ⟨rfl, ⟨by decide +kernel, (xTs_in (tin_5 _ (List.mem_of_getElem? (i := 67) rfl)) rfl)⟩, by decide, rfl, tmo_142, fun h => absurd h (by decide)⟩
set_option maxRecDepth 100000 in
theorem tmo_143 : xmok cX6_addsBow 3 xm_143 := xmok_of (by decide +kernel)
theorem tm_143 : Pm (xm_143, yX6_addsBow, cX6_addsBow, 3) := ⟨rfl, ⟨by decide +kernel, (xTs_in (tin_4 _ (List.mem_of_getElem? (i := 219) rfl)) rfl)⟩, by decide, rfl, tmo_143, fun h => absurd h (by decide)⟩
set_option maxRecDepth 100000 in
theorem tmo_144 : xmok cX6_bow 2 xm_144 := xmok_of (by decide +kernel)
theorem tm_144 : Pm (xm_144, yX6_bow, cX6_bow, 2) := ⟨rfl, ⟨by decide +kernel, (xTs_in (tin_4 _ (List.mem_of_getElem? (i := 207) rfl)) rfl)⟩, by decide, rfl, tmo_144, fun h => absurd h (by decide)⟩
set_option maxRecDepth 100000 in
theorem tmo_145 : xmok cX6_of 3 xm_145 := xmok_of (by decide +kernel)
theorem tm_145 : Pm (xm_145, yX6_of, cX6_of, 3) := ⟨rfl, ⟨by decide +kernel, (xTs_in (tin_4 _ (List.mem_of_getElem? (i := 227) rfl)) rfl)⟩, by decide, rfl, tmo_145, fun h => absurd h (by decide)⟩
set_option maxRecDepth 100000 in
theorem tmo_146 : xmok cX6_change 6 xm_146 := xmok_of (by decide +kernel)
theorem tm_146 : Pm (xm_146, yX6_change, cX6_change, 6) := ⟨rfl, ⟨by decide +kernel, (xTs_in (tin_5 _ (List.mem_of_getElem? (i := 29) rfl)) rfl)⟩, by decide, rfl, tmo_146, fun h => absurd h (by decide)⟩
set_option maxRecDepth 100000 in
theorem tmo_147 : xmok cX6_contract 5 xm_147 := xmok_of (by decide +kernel)
theorem tm_147 : Pm (xm_147, yX6_contract, cX6_contract, 5) := ⟨rfl, ⟨by decide +kernel, (xTs_in (tin_5 _ (List.mem_of_getElem? (i := 40) rfl)) rfl)⟩, by decide, rfl, tmo_147, fun h => absurd h (by decide)⟩
set_option maxRecDepth 100000 in
theorem tmo_148 : xmok cX6_greatestRule 1 xm_148 := xmok_of (by decide +kernel)
theorem tm_148 : Pm (xm_148, yX6_greatestRule, cX6_greatestRule, 1) := ⟨rfl, ⟨by decide +kernel, (xTs_in (tin_5 _ (List.mem_of_getElem? (i := 47) rfl)) rfl)⟩, by decide, rfl, tmo_148, fun h => absurd h (by decide)⟩
set_option maxRecDepth 100000 in
theorem tmo_149 : xmok cX6_rule 4 xm_149 := xmok_of (by decide +kernel)
theorem tm_149 : Pm (xm_149, yX6_rule, cX6_rule, 4) := ⟨rfl, ⟨by decide +kernel, (xTs_in (tin_5 _ (List.mem_of_getElem? (i := 44) rfl)) rfl)⟩, by decide, rfl, tmo_149, fun h => absurd h (by decide)⟩
set_option maxRecDepth 100000 in
theorem tmo_150 : xmok cX6_noise 3 xm_150 := xmok_of (by decide +kernel)
theorem tm_150 : Pm (xm_150, yX6_noise, cX6_noise, 3) := ⟨rfl, ⟨by decide +kernel, (xTs_in (tin_5 _ (List.mem_of_getElem? (i := 51) rfl)) rfl)⟩, by decide, rfl, tmo_150, fun h => absurd h (by decide)⟩
set_option maxRecDepth 100000 in
theorem tmo_151 : xmok cX6_come 2 xm_151 := xmok_of (by decide +kernel)
theorem tm_151 : Pm (xm_151, yX6_come, cX6_come, 2) := ⟨rfl, ⟨by decide +kernel, (xTs_in (tin_5 _ (List.mem_of_getElem? (i := 55) rfl)) rfl)⟩, by decide, rfl, tmo_151, fun h => absurd h (by decide)⟩
set_option maxRecDepth 100000 in
theorem tmo_152 : xmok cX6_back 2 xm_152 := xmok_of (by decide +kernel)
theorem tm_152 : Pm (xm_152, yX6_back, cX6_back, 2) := ⟨rfl, ⟨by decide +kernel, (xTs_in (tin_5 _ (List.mem_of_getElem? (i := 71) rfl)) rfl)⟩, by decide, rfl, tmo_152, fun h => absurd h (by decide)⟩
set_option maxRecDepth 100000 in
theorem tmo_153 : xmok cX6_clear 2 xm_153 := xmok_of (by decide +kernel)
theorem tm_153 : Pm (xm_153, yX6_clear, cX6_clear, 2) := ⟨rfl, ⟨by decide +kernel, (xTs_in (tin_5 _ (List.mem_of_getElem? (i := 75) rfl)) rfl)⟩, by decide, rfl, tmo_153, fun h => absurd h (by decide)⟩
set_option maxRecDepth 100000 in
theorem tmo_154 : xmok cX6_stood 2 xm_154 := xmok_of (by decide +kernel)
theorem tm_154 : Pm (xm_154, yX6_stood, cX6_stood, 2) := ⟨rfl, ⟨by decide +kernel, (xTs_in (tin_5 _ (List.mem_of_getElem? (i := 79) rfl)) rfl)⟩, by decide, rfl, tmo_154, fun h => absurd h (by decide)⟩
set_option maxRecDepth 100000 in
theorem tmo_155 : xmok cX6_fallsOfStage 3 xm_155 := xmok_of (by decide +kernel)
theorem tm_155 : Pm (xm_155, yX6_fallsOfStage, cX6_fallsOfStage, 3) := ⟨rfl, ⟨by decide +kernel, (xTs_in (tin_5 _ (List.mem_of_getElem? (i := 91) rfl)) rfl)⟩, by decide, rfl, tmo_155, fun h => absurd h (by decide)⟩
set_option maxRecDepth 100000 in
theorem tmo_156 : xmok cX6_now 2 xm_156 := xmok_of (by decide +kernel)
theorem tm_156 : Pm (xm_156, yX6_now, cX6_now, 2) := ⟨rfl, ⟨by decide +kernel, (xTs_in (tin_5 _ (List.mem_of_getElem? (i := 83) rfl)) rfl)⟩, by decide, rfl, tmo_156, fun h => absurd h (by decide)⟩
set_option maxRecDepth 100000 in
theorem tmo_157 : xmok cX6_brings 5 xm_157 := xmok_of (by decide +kernel)
theorem tm_157 : Pm (xm_157, yX6_brings, cX6_brings, 5) := ⟨rfl, ⟨by decide +kernel, (xTs_in (tin_5 _ (List.mem_of_getElem? (i := 104) rfl)) rfl)⟩, by decide, rfl, tmo_157, fun h => absurd h (by decide)⟩
set_option maxRecDepth 100000 in
theorem tmo_158 : xmok cX6_findsBest 10 xm_158 := xmok_of (by decide +kernel)
theorem tm_158 : Pm (xm_158, yX6_findsBest, cX6_findsBest, 10) := ⟨rfl, ⟨by decide +kernel, (xTs_in (tin_5 _ (List.mem_of_getElem? (i := 99) rfl)) rfl)⟩, by decide, rfl, tmo_158, fun h => absurd h (by decide)⟩
set_option maxRecDepth 100000 in
theorem tmo_159 : xmok cX6_findsRow 8 xm_159 := xmok_of (by decide +kernel)
theorem tm_159 : Pm (xm_159, yX6_findsRow, cX6_findsRow, 8) := ⟨rfl, ⟨by decide +kernel, (xTs_in (tin_5 _ (List.mem_of_getElem? (i := 112) rfl)) rfl)⟩, by decide, rfl, tmo_159, fun h => absurd h (by decide)⟩
set_option maxRecDepth 100000 in
theorem tmo_160 : xmok cX6_best 3 xm_160 := xmok_of (by decide +kernel)
theorem tm_160 : Pm (xm_160, yX6_best, cX6_best, 3) := ⟨rfl, ⟨by decide +kernel, (xTs_in (tin_5 _ (List.mem_of_getElem? (i := 95) rfl)) rfl)⟩, by decide, rfl, tmo_160, fun h => absurd h (by decide)⟩
set_option maxRecDepth 100000 in
theorem tmo_161 : xmok cX6_ith 4 xm_161 := xmok_of (by decide +kernel)
theorem tm_161 : Pm (xm_161, yX6_ith, cX6_ith, 4) := ⟨rfl, ⟨by decide +kernel, (xTs_in (tin_5 _ (List.mem_of_getElem? (i := 108) rfl)) rfl)⟩, by decide, rfl, tmo_161, fun h => absurd h (by decide)⟩
set_option maxRecDepth 100000 in
theorem tmo_162 : xmok cX6_countsWays 5 xm_162 := xmok_of (by decide +kernel)
theorem tm_162 : Pm (xm_162, yX6_countsWays, cX6_countsWays, 5) := ⟨rfl, ⟨by decide +kernel, (xTs_in (tin_5 _ (List.mem_of_getElem? (i := 120) rfl)) rfl)⟩, by decide, rfl, tmo_162, fun h => absurd h (by decide)⟩
set_option maxRecDepth 100000 in
theorem tmo_163 : xmok cX6_ways 1 xm_163 := xmok_of (by decide +kernel)
theorem tm_163 : Pm (xm_163, yX6_ways, cX6_ways, 1) := ⟨rfl, ⟨by decide +kernel, (xTs_in (tin_5 _ (List.mem_of_getElem? (i := 116) rfl)) rfl)⟩, by decide, rfl, tmo_163, fun h => absurd h (by decide)⟩
set_option maxRecDepth 100000 in
theorem tmo_164 : xmok cX6_lasts 5 xm_164 := xmok_of (by decide +kernel)
theorem tm_164 : Pm (xm_164, yX6_lasts, cX6_lasts, 5) := ⟨rfl, ⟨by decide +kernel, (xTs_in (tin_5 _ (List.mem_of_getElem? (i := 124) rfl)) rfl)⟩, by decide, rfl, tmo_164, fun h => absurd h (by decide)⟩
set_option maxRecDepth 100000 in
theorem tmo_165 : xmok cX6_place 8 xm_165 := xmok_of (by decide +kernel)
theorem tm_165 : Pm (xm_165, yX6_place, cX6_place, 8) := ⟨rfl, ⟨by decide +kernel, (xTs_in (tin_5 _ (List.mem_of_getElem? (i := 128) rfl)) rfl)⟩, by decide, rfl, tmo_165, fun h => absurd h (by decide)⟩
set_option maxRecDepth 100000 in
theorem tmo_166 : xmok cX6_allAhead 5 xm_166 := xmok_of (by decide +kernel)
theorem tm_166 : Pm (xm_166, yX6_allAhead, cX6_allAhead, 5) := ⟨rfl, ⟨by decide +kernel, (xTs_in (tin_5 _ (List.mem_of_getElem? (i := 139) rfl)) rfl)⟩, by decide, rfl, tmo_166, fun h => absurd h (by decide)⟩
set_option maxRecDepth 100000 in
theorem tmo_167 : xmok cX6_all 2 xm_167 := xmok_of (by decide +kernel)
theorem tm_167 : Pm (xm_167, yX6_all, cX6_all, 2) := ⟨rfl, ⟨by decide +kernel, (xTs_in (tin_5 _ (List.mem_of_getElem? (i := 135) rfl)) rfl)⟩, by decide, rfl, tmo_167, fun h => absurd h (by decide)⟩
set_option maxRecDepth 100000 in
theorem tmo_168 : xmok cX6_clash 3 xm_168 := xmok_of (by decide +kernel)
theorem tm_168 : Pm (xm_168, yX6_clash, cX6_clash, 3) := ⟨rfl, ⟨by decide +kernel, (xTs_in (tin_5 _ (List.mem_of_getElem? (i := 143) rfl)) rfl)⟩, by decide, rfl, tmo_168, fun h => absurd h (by decide)⟩
set_option maxRecDepth 100000 in
theorem tmo_169 : xmok cX6_broken 4 xm_169 := xmok_of (by decide +kernel)
theorem tm_169 : Pm (xm_169, yX6_broken, cX6_broken, 4) := ⟨rfl, ⟨by decide +kernel, (xTs_in (tin_5 _ (List.mem_of_getElem? (i := 147) rfl)) rfl)⟩, by decide, rfl, tmo_169, fun h => absurd h (by decide)⟩
set_option maxRecDepth 100000 in
theorem tmo_170 : xmok cX6_between 7 xm_170 := xmok_of (by decide +kernel)
theorem tm_170 : Pm (xm_170, yX6_between, cX6_between, 7) := ⟨rfl, ⟨by decide +kernel, (xTs_in (tin_5 _ (List.mem_of_getElem? (i := 151) rfl)) rfl)⟩, by decide, rfl, tmo_170, fun h => absurd h (by decide)⟩
set_option maxRecDepth 100000 in
theorem tmo_171 : xmok cX6_kindFor 7 xm_171 := xmok_of (by decide +kernel)
theorem tm_171 : Pm (xm_171, yX6_kindFor, cX6_kindFor, 7) := ⟨rfl, ⟨by decide +kernel, (xTs_in (tin_5 _ (List.mem_of_getElem? (i := 155) rfl)) rfl)⟩, by decide, rfl, tmo_171, fun h => absurd h (by decide)⟩
set_option maxRecDepth 100000 in
theorem tmo_172 : xmok cX6_findsFreed 7 xm_172 := xmok_of (by decide +kernel)
theorem tm_172 : Pm (xm_172, yX6_findsFreed, cX6_findsFreed, 7) := ⟨rfl, ⟨by decide +kernel, (xTs_in (tin_5 _ (List.mem_of_getElem? (i := 163) rfl)) rfl)⟩, by decide, rfl, tmo_172, fun h => absurd h (by decide)⟩
set_option maxRecDepth 100000 in
theorem tmo_173 : xmok cX6_freed 2 xm_173 := xmok_of (by decide +kernel)
theorem tm_173 : Pm (xm_173, yX6_freed, cX6_freed, 2) := ⟨rfl, ⟨by decide +kernel, (xTs_in (tin_5 _ (List.mem_of_getElem? (i := 159) rfl)) rfl)⟩, by decide, rfl, tmo_173, fun h => absurd h (by decide)⟩
set_option maxRecDepth 100000 in
theorem tmo_174 : xmok cX6_free 2 xm_174 := xmok_of (by decide +kernel)
theorem tm_174 : Pm (xm_174, yX6_free, cX6_free, 2) := ⟨rfl, ⟨by decide +kernel, (xTs_in (tin_5 _ (List.mem_of_getElem? (i := 167) rfl)) rfl)⟩, by decide, rfl, tmo_174, fun h => absurd h (by decide)⟩
set_option maxRecDepth 100000 in
theorem tmo_175 : xmok cX6_train 4 xm_175 := xmok_of (by decide +kernel)
theorem tm_175 : Pm (xm_175, yX6_train, cX6_train, 4) := ⟨rfl, ⟨by decide +kernel, (xTs_in (tin_5 _ (List.mem_of_getElem? (i := 171) rfl)) rfl)⟩, by decide, rfl, tmo_175, fun h => absurd h (by decide)⟩
set_option maxRecDepth 100000 in
theorem tmo_176 : xmok cX6_isAsked 3 xm_176 := xmok_of (by decide +kernel)
theorem tm_176 : Pm (xm_176, yX6_isAsked, cX6_isAsked, 3) := ⟨rfl, ⟨by decide +kernel, (xTs_in (tin_5 _ (List.mem_of_getElem? (i := 179) rfl)) rfl)⟩, by decide, rfl, tmo_176, fun h => absurd h (by decide)⟩
set_option maxRecDepth 100000 in
theorem tmo_177 : xmok cX6_fits 6 xm_177 := xmok_of (by decide +kernel)
theorem tm_177 : Pm (xm_177, yX6_fits, cX6_fits, 6) := ⟨rfl, ⟨by decide +kernel, (xTs_in (tin_5 _ (List.mem_of_getElem? (i := 175) rfl)) rfl)⟩, by decide, rfl, tmo_177, fun h => absurd h (by decide)⟩
set_option maxRecDepth 100000 in
theorem tmo_178 : xmok cX6_love 6 xm_178 := xmok_of (by decide +kernel)
theorem tm_178 : Pm (xm_178, yX6_love, cX6_love, 6) := ⟨rfl, ⟨by decide +kernel, (xTs_in (tin_5 _ (List.mem_of_getElem? (i := 183) rfl)) rfl)⟩, by decide, rfl, tmo_178, fun h => absurd h (by decide)⟩
set_option maxRecDepth 100000 in
theorem tmo_179 : xmok cX6_silentAt 3 xm_179 := xmok_of (by decide +kernel)
theorem tm_179 : Pm (xm_179, yX6_silentAt, cX6_silentAt, 3) := ⟨rfl, ⟨by decide +kernel, (xTs_in (tin_5 _ (List.mem_of_getElem? (i := 196) rfl)) rfl)⟩, by decide, rfl, tmo_179, fun h => absurd h (by decide)⟩
set_option maxRecDepth 100000 in
theorem tmo_180 : xmok cX6_tens 4 xm_180 := xmok_of (by decide +kernel)
theorem tm_180 : Pm (xm_180, yX6_tens, cX6_tens, 4) := ⟨rfl, ⟨by decide +kernel, (xTs_in (tin_5 _ (List.mem_of_getElem? (i := 199) rfl)) rfl)⟩, by decide, rfl, tmo_180, fun h => absurd h (by decide)⟩
set_option maxRecDepth 100000 in
theorem tmo_181 : xmok cX6_worthFrom 7 xm_181 := xmok_of (by decide +kernel)
theorem tm_181 : Pm (xm_181, yX6_worthFrom, cX6_worthFrom, 7) := ⟨rfl, ⟨by decide +kernel, (xTs_in (tin_5 _ (List.mem_of_getElem? (i := 191) rfl)) rfl)⟩, by decide, rfl, tmo_181, fun h => absurd h (by decide)⟩
set_option maxRecDepth 100000 in
theorem tmo_182 : xmok cX6_curtain 13 xm_182 := xmok_of (by decide +kernel)
theorem tm_182 : Pm (xm_182, yX6_curtain, cX6_curtain, 13) := ⟨rfl, ⟨by decide +kernel, (xTs_in (tin_5 _ (List.mem_of_getElem? (i := 187) rfl)) rfl)⟩, by decide, rfl, tmo_182, fun h => absurd h (by decide)⟩
set_option maxRecDepth 100000 in
theorem tmo_183 : xmok cX6_stop 2 xm_183 := xmok_of (by decide +kernel)
theorem tm_183 : Pm (xm_183, yX6_stop, cX6_stop, 2) := ⟨rfl, ⟨by decide +kernel, (xTs_in (tin_5 _ (List.mem_of_getElem? (i := 203) rfl)) rfl)⟩, by decide, rfl, tmo_183, fun h => absurd h (by decide)⟩
set_option maxRecDepth 100000 in
theorem tmo_184 : xmok cX6_draw 1 xm_184 := xmok_of (by decide +kernel)
theorem tm_184 : Pm (xm_184, yX6_draw, cX6_draw, 1) := ⟨rfl, ⟨by decide +kernel, (xTs_in (tin_5 _ (List.mem_of_getElem? (i := 211) rfl)) rfl)⟩, by decide, rfl, tmo_184, fun h => absurd h (by decide)⟩
set_option maxRecDepth 100000 in
theorem tmo_185 : xmok cX6_evening 5 xm_185 := xmok_of (by decide +kernel)
theorem tm_185 : Pm (xm_185, yX6_evening, cX6_evening, 5) := ⟨rfl, ⟨by decide +kernel, (xTs_in (tin_5 _ (List.mem_of_getElem? (i := 207) rfl)) rfl)⟩, by decide, rfl, tmo_185, fun h => absurd h (by decide)⟩
set_option maxRecDepth 100000 in
theorem tmo_186 : xmok cX6_lot 6 xm_186 := xmok_of (by decide +kernel)
theorem tm_186 : Pm (xm_186, yX6_lot, cX6_lot, 6) := ⟨rfl, ⟨by decide +kernel, (xTs_in (tin_5 _ (List.mem_of_getElem? (i := 216) rfl)) rfl)⟩, by decide, rfl, tmo_186, fun h => absurd h (by decide)⟩
set_option maxRecDepth 100000 in
theorem tmo_187 : xmok cX6_seed 3 xm_187 := xmok_of (by decide +kernel)
theorem tm_187 : Pm (xm_187, yX6_seed, cX6_seed, 3) := ⟨rfl, ⟨by decide +kernel, (xTs_in (tin_5 _ (List.mem_of_getElem? (i := 220) rfl)) rfl)⟩, by decide, rfl, tmo_187, fun h => absurd h (by decide)⟩
set_option maxRecDepth 100000 in
theorem tmo_188 : xmok cX6_setsAside 2 xm_188 := xmok_of (by decide +kernel)
theorem tm_188 : Pm (xm_188, yX6_setsAside, cX6_setsAside, 2) := ⟨rfl, ⟨by decide +kernel, (xTs_in (tin_5 _ (List.mem_of_getElem? (i := 236) rfl)) rfl)⟩, by decide, rfl, tmo_188, fun h => absurd h (by decide)⟩
set_option maxRecDepth 100000 in
theorem tmo_189 : xmok cX6_laysBack 2 xm_189 := xmok_of (by decide +kernel)
theorem tm_189 : Pm (xm_189, yX6_laysBack, cX6_laysBack, 2) := ⟨rfl, ⟨by decide +kernel, (xTs_in (tin_6 _ (List.mem_of_getElem? (i := 35) rfl)) rfl)⟩, by decide, rfl, tmo_189, fun h => absurd h (by decide)⟩
set_option maxRecDepth 100000 in
theorem tmo_190 : xmok cX6_feed 4 xm_190 := xmok_of (by decide +kernel)
theorem tm_190 : Pm (xm_190, yX6_feed, cX6_feed, 4) := ⟨rfl, ⟨by decide +kernel, (xTs_in (tin_5 _ (List.mem_of_getElem? (i := 224) rfl)) rfl)⟩, by decide, rfl, tmo_190, fun h => absurd h (by decide)⟩
set_option maxRecDepth 100000 in
theorem tmo_191 : xmok cX6_wipe 2 xm_191 := xmok_of (by decide +kernel)
theorem tm_191 : Pm (xm_191, yX6_wipe, cX6_wipe, 2) := ⟨rfl, ⟨by decide +kernel, (xTs_in (tin_5 _ (List.mem_of_getElem? (i := 228) rfl)) rfl)⟩, by decide, rfl, tmo_191, fun h => absurd h (by decide)⟩
set_option maxRecDepth 100000 in
theorem tmo_192 : xmok cX6_isLetter 1 xm_192 := xmok_of (by decide +kernel)
theorem tm_192 : Pm (xm_192, yX6_isLetter, cX6_isLetter, 1) := ⟨rfl, ⟨by decide +kernel, (xTs_in (tin_6 _ (List.mem_of_getElem? (i := 3) rfl)) rfl)⟩, by decide, rfl, tmo_192, fun h => absurd h (by decide)⟩
set_option maxRecDepth 100000 in
theorem tmo_193 : xmok cX6_isDigit 1 xm_193 := xmok_of (by decide +kernel)
theorem tm_193 : Pm (xm_193, yX6_isDigit, cX6_isDigit, 1) := ⟨rfl, ⟨by decide +kernel, (xTs_in (tin_6 _ (List.mem_of_getElem? (i := 9) rfl)) rfl)⟩, by decide, rfl, tmo_193, fun h => absurd h (by decide)⟩
set_option maxRecDepth 100000 in
theorem tmo_194_0 : xm_194_0.all (fun r => xenok cX6_nextToken 1 r) = true := by decide +kernel
set_option maxRecDepth 100000 in
theorem tmo_194_1 : xm_194_1.all (fun r => xenok cX6_nextToken 1 r) = true := by decide +kernel
set_option maxRecDepth 100000 in
theorem tmo_194_2 : xm_194_2.all (fun r => xenok cX6_nextToken 1 r) = true := by decide +kernel
set_option maxRecDepth 100000 in
theorem tmo_194_3 : xm_194_3.all (fun r => xenok cX6_nextToken 1 r) = true := by decide +kernel
set_option maxRecDepth 100000 in
theorem tmo_194_4 : xm_194_4.all (fun r => xenok cX6_nextToken 1 r) = true := by decide +kernel
set_option maxRecDepth 100000 in
theorem tmo_194_5 : xm_194_5.all (fun r => xenok cX6_nextToken 1 r) = true := by decide +kernel
set_option maxRecDepth 100000 in
theorem tmo_194_6 : xm_194_6.all (fun r => xenok cX6_nextToken 1 r) = true := by decide +kernel
set_option maxRecDepth 100000 in
theorem tmo_194_7 : xm_194_7.all (fun r => xenok cX6_nextToken 1 r) = true := by decide +kernel
set_option maxRecDepth 100000 in
theorem tmo_194_8 : xm_194_8.all (fun r => xenok cX6_nextToken 1 r) = true := by decide +kernel
set_option maxRecDepth 100000 in
theorem tmo_194_9 : xm_194_9.all (fun r => xenok cX6_nextToken 1 r) = true := by decide +kernel
set_option maxRecDepth 100000 in
theorem tmo_194_10 : xm_194_10.all (fun r => xenok cX6_nextToken 1 r) = true := by decide +kernel
theorem tmo_194 : xmok cX6_nextToken 1 xm_194 := by
  refine ⟨?_, ?_⟩
  · show ∀ ch ∈ [xm_194_0, xm_194_1, xm_194_2, xm_194_3, xm_194_4, xm_194_5, xm_194_6, xm_194_7, xm_194_8, xm_194_9, xm_194_10], ∀ r ∈ ch, xenok cX6_nextToken 1 r = true
    exact List.forall_mem_cons.mpr ⟨fun r h => List.all_eq_true.mp tmo_194_0 r h, List.forall_mem_cons.mpr ⟨fun r h => List.all_eq_true.mp tmo_194_1 r h, List.forall_mem_cons.mpr ⟨fun r h => List.all_eq_true.mp tmo_194_2 r h, List.forall_mem_cons.mpr ⟨fun r h => List.all_eq_true.mp tmo_194_3 r h, List.forall_mem_cons.mpr ⟨fun r h => List.all_eq_true.mp tmo_194_4 r h, List.forall_mem_cons.mpr ⟨fun r h => List.all_eq_true.mp tmo_194_5 r h, List.forall_mem_cons.mpr ⟨fun r h => List.all_eq_true.mp tmo_194_6 r h, List.forall_mem_cons.mpr ⟨fun r h => List.all_eq_true.mp tmo_194_7 r h, List.forall_mem_cons.mpr ⟨fun r h => List.all_eq_true.mp tmo_194_8 r h, List.forall_mem_cons.mpr ⟨fun r h => List.all_eq_true.mp tmo_194_9 r h, List.forall_mem_cons.mpr ⟨fun r h => List.all_eq_true.mp tmo_194_10 r h, fun _ h => absurd h List.not_mem_nil⟩⟩⟩⟩⟩⟩⟩⟩⟩⟩⟩
  · decide
theorem tm_194 : Pm (xm_194, yX6_nextToken, cX6_nextToken, 1) := ⟨rfl, ⟨by decide +kernel, (xTs_in (tin_6 _ (List.mem_of_getElem? (i := 0) rfl)) rfl)⟩, by decide, rfl, tmo_194, fun h => absurd h (by decide)⟩
set_option maxRecDepth 100000 in
theorem tmo_195 : xmok cX6_wordOf 7 xm_195 := xmok_of (by decide +kernel)
theorem tm_195 : Pm (xm_195, yX6_wordOf, cX6_wordOf, 7) := ⟨rfl, ⟨by decide +kernel, (xTs_in (tin_6 _ (List.mem_of_getElem? (i := 19) rfl)) rfl)⟩, by decide, rfl, tmo_195, fun h => absurd h (by decide)⟩
set_option maxRecDepth 100000 in
theorem tmo_196 : xmok cX6_takesNumber 4 xm_196 := xmok_of (by decide +kernel)
theorem tm_196 : Pm (xm_196, yX6_takesNumber, cX6_takesNumber, 4) := ⟨rfl, ⟨by decide +kernel, (xTs_in (tin_6 _ (List.mem_of_getElem? (i := 27) rfl)) rfl)⟩, by decide, rfl, tmo_196, fun h => absurd h (by decide)⟩
set_option maxRecDepth 100000 in
theorem tmo_197 : xmok cX6_readsBow 6 xm_197 := xmok_of (by decide +kernel)
theorem tm_197 : Pm (xm_197, yX6_readsBow, cX6_readsBow, 6) := ⟨rfl, ⟨by decide +kernel, (xTs_in (tin_6 _ (List.mem_of_getElem? (i := 23) rfl)) rfl)⟩, by decide, rfl, tmo_197, fun h => absurd h (by decide)⟩
set_option maxRecDepth 100000 in
theorem tmo_198 : xmok cX6_readsContract 3 xm_198 := xmok_of (by decide +kernel)
theorem tm_198 : Pm (xm_198, yX6_readsContract, cX6_readsContract, 3) := ⟨rfl, ⟨by decide +kernel, (xTs_in (tin_6 _ (List.mem_of_getElem? (i := 31) rfl)) rfl)⟩, by decide, rfl, tmo_198, fun h => absurd h (by decide)⟩
set_option maxRecDepth 100000 in
theorem tmo_199 : xmok cX6_readsItem 4 xm_199 := xmok_of (by decide +kernel)
theorem tm_199 : Pm (xm_199, yX6_readsItem, cX6_readsItem, 4) := ⟨rfl, ⟨by decide +kernel, (xTs_in (tin_6 _ (List.mem_of_getElem? (i := 15) rfl)) rfl)⟩, by decide, rfl, tmo_199, fun h => absurd h (by decide)⟩
set_option maxRecDepth 100000 in
theorem tmo_200 : xmok cX6_text 3 xm_200 := xmok_of (by decide +kernel)
theorem tm_200 : Pm (xm_200, yX6_text, cX6_text, 3) := ⟨rfl, ⟨by decide +kernel, (xTs_in (tin_5 _ (List.mem_of_getElem? (i := 232) rfl)) rfl)⟩, by decide, rfl, tmo_200, fun h => absurd h (by decide)⟩
set_option maxRecDepth 100000 in
theorem tmo_201 : xmok cX6_isSpot 1 xm_201 := xmok_of (by decide +kernel)
theorem tm_201 : Pm (xm_201, yX6_isSpot, cX6_isSpot, 1) := ⟨rfl, ⟨by decide +kernel, (xTs_in (tin_6 _ (List.mem_of_getElem? (i := 42) rfl)) rfl)⟩, by decide, rfl, tmo_201, fun h => absurd h (by decide)⟩
set_option maxRecDepth 100000 in
theorem tmo_202 : xmok cX6_hold 3 xm_202 := xmok_of (by decide +kernel)
theorem tm_202 : Pm (xm_202, yX6_hold, cX6_hold, 3) := ⟨rfl, ⟨by decide +kernel, (xTs_in (tin_6 _ (List.mem_of_getElem? (i := 39) rfl)) rfl)⟩, by decide, rfl, tmo_202, fun h => absurd h (by decide)⟩
set_option maxRecDepth 100000 in
theorem tmo_203 : xmok cX6_above 1 xm_203 := xmok_of (by decide +kernel)
theorem tm_203 : Pm (xm_203, yX6_above, cX6_above, 1) := ⟨rfl, ⟨by decide +kernel, (xTs_in (tin_6 _ (List.mem_of_getElem? (i := 49) rfl)) rfl)⟩, by decide, rfl, tmo_203, fun h => absurd h (by decide)⟩
set_option maxRecDepth 100000 in
theorem tmo_204 : xmok cX6_isSheet 1 xm_204 := xmok_of (by decide +kernel)
theorem tm_204 : Pm (xm_204, yX6_isSheet, cX6_isSheet, 1) := ⟨rfl, ⟨by decide +kernel, (xTs_in (tin_6 _ (List.mem_of_getElem? (i := 56) rfl)) rfl)⟩, by decide, rfl, tmo_204, fun h => absurd h (by decide)⟩
set_option maxRecDepth 100000 in
theorem tmo_205 : xmok cX6_wrongSheet 2 xm_205 := xmok_of (by decide +kernel)
theorem tm_205 : Pm (xm_205, yX6_wrongSheet, cX6_wrongSheet, 2) := ⟨rfl, ⟨by decide +kernel, (xTs_in (tin_6 _ (List.mem_of_getElem? (i := 64) rfl)) rfl)⟩, by decide, rfl, tmo_205, fun h => absurd h (by decide)⟩
set_option maxRecDepth 100000 in
theorem tmo_206 : xmok cX6_as 5 xm_206 := xmok_of (by decide +kernel)
theorem tm_206 : Pm (xm_206, yX6_as, cX6_as, 5) := ⟨rfl, ⟨by decide +kernel, (xTs_in (tin_6 _ (List.mem_of_getElem? (i := 46) rfl)) rfl)⟩, by decide, rfl, tmo_206, fun h => absurd h (by decide)⟩
set_option maxRecDepth 100000 in
theorem tmo_207 : xmok cX6_sheet 5 xm_207 := xmok_of (by decide +kernel)
theorem tm_207 : Pm (xm_207, yX6_sheet, cX6_sheet, 5) := ⟨rfl, ⟨by decide +kernel, (xTs_in (tin_6 _ (List.mem_of_getElem? (i := 53) rfl)) rfl)⟩, by decide, rfl, tmo_207, fun h => absurd h (by decide)⟩
set_option maxRecDepth 100000 in
theorem tmo_208 : xmok cX6_write 5 xm_208 := xmok_of (by decide +kernel)
theorem tm_208 : Pm (xm_208, yX6_write, cX6_write, 5) := ⟨rfl, ⟨by decide +kernel, (xTs_in (tin_6 _ (List.mem_of_getElem? (i := 60) rfl)) rfl)⟩, by decide, rfl, tmo_208, fun h => absurd h (by decide)⟩
set_option maxRecDepth 100000 in
theorem tmo_209 : xmok cX6_copy 7 xm_209 := xmok_of (by decide +kernel)
theorem tm_209 : Pm (xm_209, yX6_copy, cX6_copy, 7) := ⟨rfl, ⟨by decide +kernel, (xTs_in (tin_6 _ (List.mem_of_getElem? (i := 68) rfl)) rfl)⟩, by decide, rfl, tmo_209, fun h => absurd h (by decide)⟩
set_option maxRecDepth 100000 in
theorem tmo_210 : xmok cX6_load 4 xm_210 := xmok_of (by decide +kernel)
theorem tm_210 : Pm (xm_210, yX6_load, cX6_load, 4) := ⟨rfl, ⟨by decide +kernel, (xTs_in (tin_6 _ (List.mem_of_getElem? (i := 72) rfl)) rfl)⟩, by decide, rfl, tmo_210, fun h => absurd h (by decide)⟩
set_option maxRecDepth 100000 in
theorem tmo_211 : xmok cX6_comeOf 6 xm_211 := xmok_of (by decide +kernel)
theorem tm_211 : Pm (xm_211, yX6_comeOf, cX6_comeOf, 6) := ⟨rfl, ⟨by decide +kernel, (xTs_in (tin_6 _ (List.mem_of_getElem? (i := 80) rfl)) rfl)⟩, by decide, rfl, tmo_211, fun h => absurd h (by decide)⟩
set_option maxRecDepth 100000 in
theorem tmo_212 : xmok cX6_judge 4 xm_212 := xmok_of (by decide +kernel)
theorem tm_212 : Pm (xm_212, yX6_judge, cX6_judge, 4) := ⟨rfl, ⟨by decide +kernel, (xTs_in (tin_6 _ (List.mem_of_getElem? (i := 76) rfl)) rfl)⟩, by decide, rfl, tmo_212, fun h => absurd h (by decide)⟩
set_option maxRecDepth 100000 in
theorem tmo_213 : xmok cX6_loud 4 xm_213 := xmok_of (by decide +kernel)
theorem tm_213 : Pm (xm_213, yX6_loud, cX6_loud, 4) := ⟨rfl, ⟨by decide +kernel, (xTs_in (tin_6 _ (List.mem_of_getElem? (i := 84) rfl)) rfl)⟩, by decide, rfl, tmo_213, fun h => absurd h (by decide)⟩
set_option maxRecDepth 100000 in
theorem tmo_214 : xmok cX6_image 2 xm_214 := xmok_of (by decide +kernel)
theorem tm_214 : Pm (xm_214, yX6_image, cX6_image, 2) := ⟨rfl, ⟨by decide +kernel, (xTs_in (tin_6 _ (List.mem_of_getElem? (i := 88) rfl)) rfl)⟩, by decide, rfl, tmo_214, fun h => absurd h (by decide)⟩
set_option maxRecDepth 100000 in
theorem tmo_215 : xmok cX6_undo 2 xm_215 := xmok_of (by decide +kernel)
theorem tm_215 : Pm (xm_215, yX6_undo, cX6_undo, 2) := ⟨rfl, ⟨by decide +kernel, (xTs_in (tin_6 _ (List.mem_of_getElem? (i := 92) rfl)) rfl)⟩, by decide, rfl, tmo_215, fun h => absurd h (by decide)⟩
set_option maxRecDepth 100000 in
theorem tmo_216 : xmok cX6_tear 2 xm_216 := xmok_of (by decide +kernel)
theorem tm_216 : Pm (xm_216, yX6_tear, cX6_tear, 2) := ⟨rfl, ⟨by decide +kernel, (xTs_in (tin_6 _ (List.mem_of_getElem? (i := 96) rfl)) rfl)⟩, by decide, rfl, tmo_216, fun h => absurd h (by decide)⟩
set_option maxRecDepth 100000 in
theorem tmo_217 : xmok cX6_count 4 xm_217 := xmok_of (by decide +kernel)
theorem tm_217 : Pm (xm_217, yX6_count, cX6_count, 4) := ⟨rfl, ⟨by decide +kernel, (xTs_in (tin_6 _ (List.mem_of_getElem? (i := 100) rfl)) rfl)⟩, by decide, rfl, tmo_217, fun h => absurd h (by decide)⟩
set_option maxRecDepth 100000 in
theorem tmo_218 : xmok cX6_status 4 xm_218 := xmok_of (by decide +kernel)
theorem tm_218 : Pm (xm_218, yX6_status, cX6_status, 4) := ⟨rfl, ⟨by decide +kernel, (xTs_in (tin_6 _ (List.mem_of_getElem? (i := 104) rfl)) rfl)⟩, by decide, rfl, tmo_218, fun h => absurd h (by decide)⟩
set_option maxRecDepth 100000 in
theorem tmo_219 : xmok cJ6_bitCount_0f7a4 1 xm_219 := xmok_of (by decide +kernel)
theorem tm_219 : Pm (xm_219, yJ6_bitCount_0f7a4, cJ6_bitCount_0f7a4, 1) := ⟨rfl, ⟨by decide +kernel, (xTs_in (tin_2 _ (List.mem_of_getElem? (i := 184) rfl)) rfl)⟩, by decide, rfl, tmo_219, fun h => absurd h (by decide)⟩
set_option maxRecDepth 100000 in
theorem tmo_220 : xmok cJ0_length_8abf5 1 xm_220 := xmok_of (by decide +kernel)
theorem tm_220 : Pm (xm_220, yJ0_length_8abf5, cJ0_length_8abf5, 1) := ⟨rfl, ⟨by decide +kernel, (xTs_in (tin_3 _ (List.mem_of_getElem? (i := 174) rfl)) rfl)⟩, by decide, rfl, tmo_220, fun h => absurd h (by decide)⟩
set_option maxRecDepth 100000 in
theorem tmo_221 : xmok cJ0_charAt_5068e 2 xm_221 := xmok_of (by decide +kernel)
theorem tm_221 : Pm (xm_221, yJ0_charAt_5068e, cJ0_charAt_5068e, 2) := ⟨rfl, ⟨by decide +kernel, (xTs_in (tin_3 _ (List.mem_of_getElem? (i := 184) rfl)) rfl)⟩, by decide, rfl, tmo_221, fun h => absurd h (by decide)⟩
set_option maxRecDepth 100000 in
theorem tmo_222 : xmok cJ0_coder_7d493 1 xm_222 := xmok_of (by decide +kernel)
theorem tm_222 : Pm (xm_222, yJ0_coder_7d493, cJ0_coder_7d493, 1) := ⟨rfl, ⟨by decide +kernel, (xTs_in (tin_3 _ (List.mem_of_getElem? (i := 178) rfl)) rfl)⟩, by decide, rfl, tmo_222, fun h => absurd h (by decide)⟩
set_option maxRecDepth 100000 in
theorem tmo_223 : xmok cJ0_isLatin1_aae02 1 xm_223 := xmok_of (by decide +kernel)
theorem tm_223 : Pm (xm_223, yJ0_isLatin1_aae02, cJ0_isLatin1_aae02, 1) := ⟨rfl, ⟨by decide +kernel, (xTs_in (tin_3 _ (List.mem_of_getElem? (i := 188) rfl)) rfl)⟩, by decide, rfl, tmo_223, fun h => absurd h (by decide)⟩
set_option maxRecDepth 100000 in
theorem tmo_224 : xmok cJ0_checkIndex_df160 2 xm_224 := xmok_of (by decide +kernel)
theorem tm_224 : Pm (xm_224, yJ0_checkIndex_df160, cJ0_checkIndex_df160, 2) := ⟨rfl, ⟨by decide +kernel, (xTs_in (tin_3 _ (List.mem_of_getElem? (i := 194) rfl)) rfl)⟩, by decide, rfl, tmo_224, fun h => absurd h (by decide)⟩
set_option maxRecDepth 100000 in
theorem tmo_225 : xmok cJ1_charAt_3b067 2 xm_225 := xmok_of (by decide +kernel)
theorem tm_225 : Pm (xm_225, yJ1_charAt_3b067, cJ1_charAt_3b067, 2) := ⟨rfl, ⟨by decide +kernel, (xTs_in (tin_3 _ (List.mem_of_getElem? (i := 191) rfl)) rfl)⟩, by decide, rfl, tmo_225, fun h => absurd h (by decide)⟩
set_option maxRecDepth 100000 in
theorem tmo_226 : xmok cJ3_checkIndex_8e157 3 xm_226 := xmok_of (by decide +kernel)
theorem tm_226 : Pm (xm_226, yJ3_checkIndex_8e157, cJ3_checkIndex_8e157, 3) := ⟨rfl, ⟨by decide +kernel, (xTs_in (tin_3 _ (List.mem_of_getElem? (i := 199) rfl)) rfl)⟩, by decide, rfl, tmo_226, fun h => absurd h (by decide)⟩
set_option maxRecDepth 100000 in
theorem tmo_227 : xmok cX1_init 1 xm_227 := xmok_of (by decide +kernel)
theorem tm_227 : Pm (xm_227, yX1_init, cX1_init, 1) := ⟨rfl, ⟨by decide +kernel, (xTs_in (tin_1 _ (List.mem_of_getElem? (i := 105) rfl)) rfl)⟩, by decide, rfl, tmo_227, fun _ => rfl⟩
set_option maxRecDepth 100000 in
theorem tmo_228 : xmok cX2_init 1 xm_228 := xmok_of (by decide +kernel)
theorem tm_228 : Pm (xm_228, yX2_init, cX2_init, 1) := ⟨rfl, ⟨by decide +kernel, (xTs_in (tin_1 _ (List.mem_of_getElem? (i := 27) rfl)) rfl)⟩, by decide, rfl, tmo_228, fun _ => rfl⟩
set_option maxRecDepth 100000 in
theorem tmo_229 : xmok cX3_init 1 xm_229 := xmok_of (by decide +kernel)
theorem tm_229 : Pm (xm_229, yX3_init, cX3_init, 1) := ⟨rfl, ⟨by decide +kernel, (xTs_in (tin_1 _ (List.mem_of_getElem? (i := 202) rfl)) rfl)⟩, by decide, rfl, tmo_229, fun _ => rfl⟩
set_option maxRecDepth 100000 in
theorem tmo_230 : xmok cX4_init 1 xm_230 := xmok_of (by decide +kernel)
theorem tm_230 : Pm (xm_230, yX4_init, cX4_init, 1) := ⟨rfl, ⟨by decide +kernel, (xTs_in (tin_1 _ (List.mem_of_getElem? (i := 164) rfl)) rfl)⟩, by decide, rfl, tmo_230, fun _ => rfl⟩
set_option maxRecDepth 100000 in
theorem tmo_231 : xmok cX5_init 1 xm_231 := xmok_of (by decide +kernel)
theorem tm_231 : Pm (xm_231, yX5_init, cX5_init, 1) := ⟨rfl, ⟨by decide +kernel, (xTs_in (tin_1 _ (List.mem_of_getElem? (i := 19) rfl)) rfl)⟩, by decide, rfl, tmo_231, fun _ => rfl⟩
set_option maxRecDepth 100000 in
theorem tmo_232_0 : xm_232_0.all (fun r => xenok cX6_init 2 r) = true := by decide +kernel
set_option maxRecDepth 100000 in
theorem tmo_232_1 : xm_232_1.all (fun r => xenok cX6_init 2 r) = true := by decide +kernel
set_option maxRecDepth 100000 in
theorem tmo_232_2 : xm_232_2.all (fun r => xenok cX6_init 2 r) = true := by decide +kernel
set_option maxRecDepth 100000 in
theorem tmo_232_3 : xm_232_3.all (fun r => xenok cX6_init 2 r) = true := by decide +kernel
set_option maxRecDepth 100000 in
theorem tmo_232_4 : xm_232_4.all (fun r => xenok cX6_init 2 r) = true := by decide +kernel
set_option maxRecDepth 100000 in
theorem tmo_232_5 : xm_232_5.all (fun r => xenok cX6_init 2 r) = true := by decide +kernel
set_option maxRecDepth 100000 in
theorem tmo_232_6 : xm_232_6.all (fun r => xenok cX6_init 2 r) = true := by decide +kernel
set_option maxRecDepth 100000 in
theorem tmo_232_7 : xm_232_7.all (fun r => xenok cX6_init 2 r) = true := by decide +kernel
set_option maxRecDepth 100000 in
theorem tmo_232_8 : xm_232_8.all (fun r => xenok cX6_init 2 r) = true := by decide +kernel
set_option maxRecDepth 100000 in
theorem tmo_232_9 : xm_232_9.all (fun r => xenok cX6_init 2 r) = true := by decide +kernel
set_option maxRecDepth 100000 in
theorem tmo_232_10 : xm_232_10.all (fun r => xenok cX6_init 2 r) = true := by decide +kernel
set_option maxRecDepth 100000 in
theorem tmo_232_11 : xm_232_11.all (fun r => xenok cX6_init 2 r) = true := by decide +kernel
set_option maxRecDepth 100000 in
theorem tmo_232_12 : xm_232_12.all (fun r => xenok cX6_init 2 r) = true := by decide +kernel
set_option maxRecDepth 100000 in
theorem tmo_232_13 : xm_232_13.all (fun r => xenok cX6_init 2 r) = true := by decide +kernel
set_option maxRecDepth 100000 in
theorem tmo_232_14 : xm_232_14.all (fun r => xenok cX6_init 2 r) = true := by decide +kernel
set_option maxRecDepth 100000 in
theorem tmo_232_15 : xm_232_15.all (fun r => xenok cX6_init 2 r) = true := by decide +kernel
set_option maxRecDepth 100000 in
theorem tmo_232_16 : xm_232_16.all (fun r => xenok cX6_init 2 r) = true := by decide +kernel
set_option maxRecDepth 100000 in
theorem tmo_232_17 : xm_232_17.all (fun r => xenok cX6_init 2 r) = true := by decide +kernel
set_option maxRecDepth 100000 in
theorem tmo_232_18 : xm_232_18.all (fun r => xenok cX6_init 2 r) = true := by decide +kernel
set_option maxRecDepth 100000 in
theorem tmo_232_19 : xm_232_19.all (fun r => xenok cX6_init 2 r) = true := by decide +kernel
set_option maxRecDepth 100000 in
theorem tmo_232_20 : xm_232_20.all (fun r => xenok cX6_init 2 r) = true := by decide +kernel
set_option maxRecDepth 100000 in
theorem tmo_232_21 : xm_232_21.all (fun r => xenok cX6_init 2 r) = true := by decide +kernel
set_option maxRecDepth 100000 in
theorem tmo_232_22 : xm_232_22.all (fun r => xenok cX6_init 2 r) = true := by decide +kernel
set_option maxRecDepth 100000 in
theorem tmo_232_23 : xm_232_23.all (fun r => xenok cX6_init 2 r) = true := by decide +kernel
set_option maxRecDepth 100000 in
theorem tmo_232_24 : xm_232_24.all (fun r => xenok cX6_init 2 r) = true := by decide +kernel
set_option maxRecDepth 100000 in
theorem tmo_232_25 : xm_232_25.all (fun r => xenok cX6_init 2 r) = true := by decide +kernel
set_option maxRecDepth 100000 in
theorem tmo_232_26 : xm_232_26.all (fun r => xenok cX6_init 2 r) = true := by decide +kernel
set_option maxRecDepth 100000 in
theorem tmo_232_27 : xm_232_27.all (fun r => xenok cX6_init 2 r) = true := by decide +kernel
set_option maxRecDepth 100000 in
theorem tmo_232_28 : xm_232_28.all (fun r => xenok cX6_init 2 r) = true := by decide +kernel
set_option maxRecDepth 100000 in
theorem tmo_232_29 : xm_232_29.all (fun r => xenok cX6_init 2 r) = true := by decide +kernel
theorem tmo_232 : xmok cX6_init 2 xm_232 := by
  refine ⟨?_, ?_⟩
  · show ∀ ch ∈ [xm_232_0, xm_232_1, xm_232_2, xm_232_3, xm_232_4, xm_232_5, xm_232_6, xm_232_7, xm_232_8, xm_232_9, xm_232_10, xm_232_11, xm_232_12, xm_232_13, xm_232_14, xm_232_15, xm_232_16, xm_232_17, xm_232_18, xm_232_19, xm_232_20, xm_232_21, xm_232_22, xm_232_23, xm_232_24, xm_232_25, xm_232_26, xm_232_27, xm_232_28, xm_232_29], ∀ r ∈ ch, xenok cX6_init 2 r = true
    exact List.forall_mem_cons.mpr ⟨fun r h => List.all_eq_true.mp tmo_232_0 r h, List.forall_mem_cons.mpr ⟨fun r h => List.all_eq_true.mp tmo_232_1 r h, List.forall_mem_cons.mpr ⟨fun r h => List.all_eq_true.mp tmo_232_2 r h, List.forall_mem_cons.mpr ⟨fun r h => List.all_eq_true.mp tmo_232_3 r h, List.forall_mem_cons.mpr ⟨fun r h => List.all_eq_true.mp tmo_232_4 r h, List.forall_mem_cons.mpr ⟨fun r h => List.all_eq_true.mp tmo_232_5 r h, List.forall_mem_cons.mpr ⟨fun r h => List.all_eq_true.mp tmo_232_6 r h, List.forall_mem_cons.mpr ⟨fun r h => List.all_eq_true.mp tmo_232_7 r h, List.forall_mem_cons.mpr ⟨fun r h => List.all_eq_true.mp tmo_232_8 r h, List.forall_mem_cons.mpr ⟨fun r h => List.all_eq_true.mp tmo_232_9 r h, List.forall_mem_cons.mpr ⟨fun r h => List.all_eq_true.mp tmo_232_10 r h, List.forall_mem_cons.mpr ⟨fun r h => List.all_eq_true.mp tmo_232_11 r h, List.forall_mem_cons.mpr ⟨fun r h => List.all_eq_true.mp tmo_232_12 r h, List.forall_mem_cons.mpr ⟨fun r h => List.all_eq_true.mp tmo_232_13 r h, List.forall_mem_cons.mpr ⟨fun r h => List.all_eq_true.mp tmo_232_14 r h, List.forall_mem_cons.mpr ⟨fun r h => List.all_eq_true.mp tmo_232_15 r h, List.forall_mem_cons.mpr ⟨fun r h => List.all_eq_true.mp tmo_232_16 r h, List.forall_mem_cons.mpr ⟨fun r h => List.all_eq_true.mp tmo_232_17 r h, List.forall_mem_cons.mpr ⟨fun r h => List.all_eq_true.mp tmo_232_18 r h, List.forall_mem_cons.mpr ⟨fun r h => List.all_eq_true.mp tmo_232_19 r h, List.forall_mem_cons.mpr ⟨fun r h => List.all_eq_true.mp tmo_232_20 r h, List.forall_mem_cons.mpr ⟨fun r h => List.all_eq_true.mp tmo_232_21 r h, List.forall_mem_cons.mpr ⟨fun r h => List.all_eq_true.mp tmo_232_22 r h, List.forall_mem_cons.mpr ⟨fun r h => List.all_eq_true.mp tmo_232_23 r h, List.forall_mem_cons.mpr ⟨fun r h => List.all_eq_true.mp tmo_232_24 r h, List.forall_mem_cons.mpr ⟨fun r h => List.all_eq_true.mp tmo_232_25 r h, List.forall_mem_cons.mpr ⟨fun r h => List.all_eq_true.mp tmo_232_26 r h, List.forall_mem_cons.mpr ⟨fun r h => List.all_eq_true.mp tmo_232_27 r h, List.forall_mem_cons.mpr ⟨fun r h => List.all_eq_true.mp tmo_232_28 r h, List.forall_mem_cons.mpr ⟨fun r h => List.all_eq_true.mp tmo_232_29 r h, fun _ h => absurd h List.not_mem_nil⟩⟩⟩⟩⟩⟩⟩⟩⟩⟩⟩⟩⟩⟩⟩⟩⟩⟩⟩⟩⟩⟩⟩⟩⟩⟩⟩⟩⟩⟩
  · decide
theorem tm_232 : Pm (xm_232, yX6_init, cX6_init, 2) := ⟨rfl, ⟨by decide +kernel, (xTs_in (tin_4 _ (List.mem_of_getElem? (i := 125) rfl)) rfl)⟩, by decide, rfl, tmo_232, fun _ => rfl⟩
def xML_0 : List xMe := [(xm_0, yX0_noiseOf, cX0_noiseOf, 3), (xm_1, yX0_fallingNoise, cX0_fallingNoise, 2), (xm_2, yX0_leftBy, cX0_leftBy, 2), (xm_3, yX0_lastedBy, cX0_lastedBy, 2), (xm_4, yX0_isUnder, cX0_isUnder, 4), (xm_5, yX1_startFrom, cX1_startFrom, 2), (xm_6, yX1_rest, cX1_rest, 1), (xm_7, yX1_canFollow, cX1_canFollow, 3), (xm_8, yX1_haveWay, cX1_haveWay, 4), (xm_9, yX1_canStand, cX1_canStand, 4), (xm_10, yX1_score, cX1_score, 6), (xm_11, yX1_weigh, cX1_weigh, 4), (xm_12, yX1_findFollowers, cX1_findFollowers, 3), (xm_13, yX1_mostBehind, cX1_mostBehind, 4), (xm_14, yX1_findFirst, cX1_findFirst, 6), (xm_15, yX1_firstBehind, cX1_firstBehind, 4), (xm_16, yX1_countWays, cX1_countWays, 4), (xm_17, yX1_lastOnes, cX1_lastOnes, 3), (xm_18, yX1_allAhead, cX1_allAhead, 6), (xm_19, yX1_earliest, cX1_earliest, 2), (xm_20, yX1_latest, cX1_latest, 5), (xm_21, yX1_fewestBroken, cX1_fewestBroken, 5), (xm_22, yX1_bestKind, cX1_bestKind, 6), (xm_23, yX1_freeOne, cX1_freeOne, 6), (xm_24, yX2_become, cX2_become, 2), (xm_25, yX2_isBow, cX2_isBow, 2), (xm_26, yX2_isSetWithout, cX2_isSetWithout, 3), (xm_27, yX2_addBow, cX2_addBow, 3), (xm_28, yX2_noiseBy, cX2_noiseBy, 3), (xm_29, yX2_leftBy, cX2_leftBy, 2), (xm_30, yX2_leftByLatest, cX2_leftByLatest, 1), (xm_31, yX2_lastedBy, cX2_lastedBy, 2), (xm_32, yX2_hasCome, cX2_hasCome, 2), (xm_33, yX2_couldCome, cX2_couldCome, 3), (xm_34, yX2_comers, cX2_comers, 3), (xm_35, yX2_enter, cX2_enter, 4), (xm_36, yX2_leave, cX2_leave, 2), (xm_37, yX2_empty, cX2_empty, 1), (xm_38, yX2_falls, cX2_falls, 4), (xm_39, yX2_draw, cX2_draw, 1)]
theorem tml_0 : ∀ e ∈ xML_0, Pm e := by
  unfold xML_0
  exact List.forall_mem_cons.mpr ⟨tm_0, List.forall_mem_cons.mpr ⟨tm_1, List.forall_mem_cons.mpr ⟨tm_2, List.forall_mem_cons.mpr ⟨tm_3, List.forall_mem_cons.mpr ⟨tm_4, List.forall_mem_cons.mpr ⟨tm_5, List.forall_mem_cons.mpr ⟨tm_6, List.forall_mem_cons.mpr ⟨tm_7, List.forall_mem_cons.mpr ⟨tm_8, List.forall_mem_cons.mpr ⟨tm_9, List.forall_mem_cons.mpr ⟨tm_10, List.forall_mem_cons.mpr ⟨tm_11, List.forall_mem_cons.mpr ⟨tm_12, List.forall_mem_cons.mpr ⟨tm_13, List.forall_mem_cons.mpr ⟨tm_14, List.forall_mem_cons.mpr ⟨tm_15, List.forall_mem_cons.mpr ⟨tm_16, List.forall_mem_cons.mpr ⟨tm_17, List.forall_mem_cons.mpr ⟨tm_18, List.forall_mem_cons.mpr ⟨tm_19, List.forall_mem_cons.mpr ⟨tm_20, List.forall_mem_cons.mpr ⟨tm_21, List.forall_mem_cons.mpr ⟨tm_22, List.forall_mem_cons.mpr ⟨tm_23, List.forall_mem_cons.mpr ⟨tm_24, List.forall_mem_cons.mpr ⟨tm_25, List.forall_mem_cons.mpr ⟨tm_26, List.forall_mem_cons.mpr ⟨tm_27, List.forall_mem_cons.mpr ⟨tm_28, List.forall_mem_cons.mpr ⟨tm_29, List.forall_mem_cons.mpr ⟨tm_30, List.forall_mem_cons.mpr ⟨tm_31, List.forall_mem_cons.mpr ⟨tm_32, List.forall_mem_cons.mpr ⟨tm_33, List.forall_mem_cons.mpr ⟨tm_34, List.forall_mem_cons.mpr ⟨tm_35, List.forall_mem_cons.mpr ⟨tm_36, List.forall_mem_cons.mpr ⟨tm_37, List.forall_mem_cons.mpr ⟨tm_38, List.forall_mem_cons.mpr ⟨tm_39, fun _ h => absurd h List.not_mem_nil⟩⟩⟩⟩⟩⟩⟩⟩⟩⟩⟩⟩⟩⟩⟩⟩⟩⟩⟩⟩⟩⟩⟩⟩⟩⟩⟩⟩⟩⟩⟩⟩⟩⟩⟩⟩⟩⟩⟩⟩
def xML_1 : List xMe := [(xm_40, yX2_contracts, cX2_contracts, 3), (xm_41, yX2_lovesTogether, cX2_lovesTogether, 3), (xm_42, yX2_heldSpots, cX2_heldSpots, 3), (xm_43, yX3_isSheet, cX3_isSheet, 2), (xm_44, yX3_wrongWith, cX3_wrongWith, 2), (xm_45, yX3_lay, cX3_lay, 5), (xm_46, yX3_numberAt, cX3_numberAt, 3), (xm_47, yX3_set, cX3_set, 5), (xm_48, yX3_hasPart, cX3_hasPart, 4), (xm_49, yX3_move, cX3_move, 6), (xm_50, yX4_hasRoom, cX4_hasRoom, 2), (xm_51, yX4_append, cX4_append, 4), (xm_52, yX4_empty, cX4_empty, 2), (xm_53, yX4_readOnto, cX4_readOnto, 3), (xm_54, yX4_readItem, cX4_readItem, 2), (xm_55, yX4_readBow, cX4_readBow, 3), (xm_56, yX4_readPart, cX4_readPart, 6), (xm_57, yX4_readRule, cX4_readRule, 3), (xm_58, yX4_readContract, cX4_readContract, 3), (xm_59, yX4_isNumber, cX4_isNumber, 3), (xm_60, yX4_cut, cX4_cut, 5), (xm_61, yX4_valueOf, cX4_valueOf, 2), (xm_62, yX4_sortOf, cX4_sortOf, 1), (xm_63, yX4_take, cX4_take, 2), (xm_64, yX4_wordAt, cX4_wordAt, 4), (xm_65, yX4_isWord, cX4_isWord, 5), (xm_66, yX4_numberAt, cX4_numberAt, 5), (xm_67, yX4_spelled, cX4_spelled, 1), (xm_68, yX5_bow, cX5_bow, 2), (xm_69, yX5_of, cX5_of, 3), (xm_70, yX5_change, cX5_change, 4), (xm_71, yX5_contract, cX5_contract, 6), (xm_72, yX5_rule, cX5_rule, 3), (xm_73, yX5_noise, cX5_noise, 3), (xm_74, yX5_come, cX5_come, 2), (xm_75, yX5_back, cX5_back, 1), (xm_76, yX5_clear, cX5_clear, 2), (xm_77, yX5_stood, cX5_stood, 2), (xm_78, yX5_now, cX5_now, 2), (xm_79, yX5_best, cX5_best, 3)]
theorem tml_1 : ∀ e ∈ xML_1, Pm e := by
  unfold xML_1
  exact List.forall_mem_cons.mpr ⟨tm_40, List.forall_mem_cons.mpr ⟨tm_41, List.forall_mem_cons.mpr ⟨tm_42, List.forall_mem_cons.mpr ⟨tm_43, List.forall_mem_cons.mpr ⟨tm_44, List.forall_mem_cons.mpr ⟨tm_45, List.forall_mem_cons.mpr ⟨tm_46, List.forall_mem_cons.mpr ⟨tm_47, List.forall_mem_cons.mpr ⟨tm_48, List.forall_mem_cons.mpr ⟨tm_49, List.forall_mem_cons.mpr ⟨tm_50, List.forall_mem_cons.mpr ⟨tm_51, List.forall_mem_cons.mpr ⟨tm_52, List.forall_mem_cons.mpr ⟨tm_53, List.forall_mem_cons.mpr ⟨tm_54, List.forall_mem_cons.mpr ⟨tm_55, List.forall_mem_cons.mpr ⟨tm_56, List.forall_mem_cons.mpr ⟨tm_57, List.forall_mem_cons.mpr ⟨tm_58, List.forall_mem_cons.mpr ⟨tm_59, List.forall_mem_cons.mpr ⟨tm_60, List.forall_mem_cons.mpr ⟨tm_61, List.forall_mem_cons.mpr ⟨tm_62, List.forall_mem_cons.mpr ⟨tm_63, List.forall_mem_cons.mpr ⟨tm_64, List.forall_mem_cons.mpr ⟨tm_65, List.forall_mem_cons.mpr ⟨tm_66, List.forall_mem_cons.mpr ⟨tm_67, List.forall_mem_cons.mpr ⟨tm_68, List.forall_mem_cons.mpr ⟨tm_69, List.forall_mem_cons.mpr ⟨tm_70, List.forall_mem_cons.mpr ⟨tm_71, List.forall_mem_cons.mpr ⟨tm_72, List.forall_mem_cons.mpr ⟨tm_73, List.forall_mem_cons.mpr ⟨tm_74, List.forall_mem_cons.mpr ⟨tm_75, List.forall_mem_cons.mpr ⟨tm_76, List.forall_mem_cons.mpr ⟨tm_77, List.forall_mem_cons.mpr ⟨tm_78, List.forall_mem_cons.mpr ⟨tm_79, fun _ h => absurd h List.not_mem_nil⟩⟩⟩⟩⟩⟩⟩⟩⟩⟩⟩⟩⟩⟩⟩⟩⟩⟩⟩⟩⟩⟩⟩⟩⟩⟩⟩⟩⟩⟩⟩⟩⟩⟩⟩⟩⟩⟩⟩⟩
def xML_2 : List xMe := [(xm_80, yX5_ith, cX5_ith, 3), (xm_81, yX5_ways, cX5_ways, 1), (xm_82, yX5_lasts, cX5_lasts, 1), (xm_83, yX5_place, cX5_place, 3), (xm_84, yX5_all, cX5_all, 2), (xm_85, yX5_clash, cX5_clash, 3), (xm_86, yX5_broken, cX5_broken, 1), (xm_87, yX5_between, cX5_between, 7), (xm_88, yX5_kindFor, cX5_kindFor, 2), (xm_89, yX5_freed, cX5_freed, 1), (xm_90, yX5_free, cX5_free, 1), (xm_91, yX5_train, cX5_train, 4), (xm_92, yX5_fits, cX5_fits, 6), (xm_93, yX5_love, cX5_love, 5), (xm_94, yX5_curtain, cX5_curtain, 8), (xm_95, yX5_stop, cX5_stop, 2), (xm_96, yX5_evening, cX5_evening, 4), (xm_97, yX5_lot, cX5_lot, 5), (xm_98, yX5_seed, cX5_seed, 3), (xm_99, yX5_feed, cX5_feed, 3), (xm_100, yX5_wipe, cX5_wipe, 1), (xm_101, yX5_text, cX5_text, 2), (xm_102, yX5_hold, cX5_hold, 3), (xm_103, yX5_as, cX5_as, 4), (xm_104, yX5_sheet, cX5_sheet, 4), (xm_105, yX5_write, cX5_write, 5), (xm_106, yX5_copy, cX5_copy, 6), (xm_107, yX5_load, cX5_load, 5), (xm_108, yX5_judge, cX5_judge, 3), (xm_109, yX5_loud, cX5_loud, 7), (xm_110, yX5_image, cX5_image, 1), (xm_111, yX5_undo, cX5_undo, 1), (xm_112, yX5_tear, cX5_tear, 2), (xm_113, yX5_count, cX5_count, 2), (xm_114, yX5_status, cX5_status, 4), (xm_115, yX5_finding, cX5_finding, 2), (xm_116, yX5_isIn, cX5_isIn, 3), (xm_117, yX5_put, cX5_put, 4), (xm_118, yX5_memberOf, cX5_memberOf, 4), (xm_119, yX5_gainAt, cX5_gainAt, 2)]
theorem tml_2 : ∀ e ∈ xML_2, Pm e := by
  unfold xML_2
  exact List.forall_mem_cons.mpr ⟨tm_80, List.forall_mem_cons.mpr ⟨tm_81, List.forall_mem_cons.mpr ⟨tm_82, List.forall_mem_cons.mpr ⟨tm_83, List.forall_mem_cons.mpr ⟨tm_84, List.forall_mem_cons.mpr ⟨tm_85, List.forall_mem_cons.mpr ⟨tm_86, List.forall_mem_cons.mpr ⟨tm_87, List.forall_mem_cons.mpr ⟨tm_88, List.forall_mem_cons.mpr ⟨tm_89, List.forall_mem_cons.mpr ⟨tm_90, List.forall_mem_cons.mpr ⟨tm_91, List.forall_mem_cons.mpr ⟨tm_92, List.forall_mem_cons.mpr ⟨tm_93, List.forall_mem_cons.mpr ⟨tm_94, List.forall_mem_cons.mpr ⟨tm_95, List.forall_mem_cons.mpr ⟨tm_96, List.forall_mem_cons.mpr ⟨tm_97, List.forall_mem_cons.mpr ⟨tm_98, List.forall_mem_cons.mpr ⟨tm_99, List.forall_mem_cons.mpr ⟨tm_100, List.forall_mem_cons.mpr ⟨tm_101, List.forall_mem_cons.mpr ⟨tm_102, List.forall_mem_cons.mpr ⟨tm_103, List.forall_mem_cons.mpr ⟨tm_104, List.forall_mem_cons.mpr ⟨tm_105, List.forall_mem_cons.mpr ⟨tm_106, List.forall_mem_cons.mpr ⟨tm_107, List.forall_mem_cons.mpr ⟨tm_108, List.forall_mem_cons.mpr ⟨tm_109, List.forall_mem_cons.mpr ⟨tm_110, List.forall_mem_cons.mpr ⟨tm_111, List.forall_mem_cons.mpr ⟨tm_112, List.forall_mem_cons.mpr ⟨tm_113, List.forall_mem_cons.mpr ⟨tm_114, List.forall_mem_cons.mpr ⟨tm_115, List.forall_mem_cons.mpr ⟨tm_116, List.forall_mem_cons.mpr ⟨tm_117, List.forall_mem_cons.mpr ⟨tm_118, List.forall_mem_cons.mpr ⟨tm_119, fun _ h => absurd h List.not_mem_nil⟩⟩⟩⟩⟩⟩⟩⟩⟩⟩⟩⟩⟩⟩⟩⟩⟩⟩⟩⟩⟩⟩⟩⟩⟩⟩⟩⟩⟩⟩⟩⟩⟩⟩⟩⟩⟩⟩⟩⟩
def xML_3 : List xMe := [(xm_120, yX5_partsFrom, cX5_partsFrom, 4), (xm_121, yX5_worth, cX5_worth, 12), (xm_122, yX5_firstThatCannot, cX5_firstThatCannot, 5), (xm_123, yX6_no, cX6_no, 2), (xm_124, yX6_in1, cX6_in1, 3), (xm_125, yX6_most, cX6_most, 2), (xm_126, yX6_bits, cX6_bits, 3), (xm_127, yX6_isIn, cX6_isIn, 2), (xm_128, yX6_isBow, cX6_isBow, 2), (xm_129, yX6_get, cX6_get, 3), (xm_130, yX6_puts, cX6_puts, 4), (xm_131, yX6_allBows, cX6_allBows, 1), (xm_132, yX6_noiseOf, cX6_noiseOf, 5), (xm_133, yX6_noiseBy, cX6_noiseBy, 3), (xm_134, yX6_leaves, cX6_leaves, 3), (xm_135, yX6_secondsOf, cX6_secondsOf, 3), (xm_136, yX6_leftBy, cX6_leftBy, 2), (xm_137, yX6_whoAt, cX6_whoAt, 2), (xm_138, yX6_stageSet, cX6_stageSet, 3), (xm_139, yX6_latest, cX6_latest, 1), (xm_140, yX6_canBehind, cX6_canBehind, 3), (xm_141, yX6_canSet, cX6_canSet, 4), (xm_142, yX6_comes, cX6_comes, 4), (xm_143, yX6_addsBow, cX6_addsBow, 3), (xm_144, yX6_bow, cX6_bow, 2), (xm_145, yX6_of, cX6_of, 3), (xm_146, yX6_change, cX6_change, 6), (xm_147, yX6_contract, cX6_contract, 5), (xm_148, yX6_greatestRule, cX6_greatestRule, 1), (xm_149, yX6_rule, cX6_rule, 4), (xm_150, yX6_noise, cX6_noise, 3), (xm_151, yX6_come, cX6_come, 2), (xm_152, yX6_back, cX6_back, 2), (xm_153, yX6_clear, cX6_clear, 2), (xm_154, yX6_stood, cX6_stood, 2), (xm_155, yX6_fallsOfStage, cX6_fallsOfStage, 3), (xm_156, yX6_now, cX6_now, 2), (xm_157, yX6_brings, cX6_brings, 5), (xm_158, yX6_findsBest, cX6_findsBest, 10), (xm_159, yX6_findsRow, cX6_findsRow, 8)]
theorem tml_3 : ∀ e ∈ xML_3, Pm e := by
  unfold xML_3
  exact List.forall_mem_cons.mpr ⟨tm_120, List.forall_mem_cons.mpr ⟨tm_121, List.forall_mem_cons.mpr ⟨tm_122, List.forall_mem_cons.mpr ⟨tm_123, List.forall_mem_cons.mpr ⟨tm_124, List.forall_mem_cons.mpr ⟨tm_125, List.forall_mem_cons.mpr ⟨tm_126, List.forall_mem_cons.mpr ⟨tm_127, List.forall_mem_cons.mpr ⟨tm_128, List.forall_mem_cons.mpr ⟨tm_129, List.forall_mem_cons.mpr ⟨tm_130, List.forall_mem_cons.mpr ⟨tm_131, List.forall_mem_cons.mpr ⟨tm_132, List.forall_mem_cons.mpr ⟨tm_133, List.forall_mem_cons.mpr ⟨tm_134, List.forall_mem_cons.mpr ⟨tm_135, List.forall_mem_cons.mpr ⟨tm_136, List.forall_mem_cons.mpr ⟨tm_137, List.forall_mem_cons.mpr ⟨tm_138, List.forall_mem_cons.mpr ⟨tm_139, List.forall_mem_cons.mpr ⟨tm_140, List.forall_mem_cons.mpr ⟨tm_141, List.forall_mem_cons.mpr ⟨tm_142, List.forall_mem_cons.mpr ⟨tm_143, List.forall_mem_cons.mpr ⟨tm_144, List.forall_mem_cons.mpr ⟨tm_145, List.forall_mem_cons.mpr ⟨tm_146, List.forall_mem_cons.mpr ⟨tm_147, List.forall_mem_cons.mpr ⟨tm_148, List.forall_mem_cons.mpr ⟨tm_149, List.forall_mem_cons.mpr ⟨tm_150, List.forall_mem_cons.mpr ⟨tm_151, List.forall_mem_cons.mpr ⟨tm_152, List.forall_mem_cons.mpr ⟨tm_153, List.forall_mem_cons.mpr ⟨tm_154, List.forall_mem_cons.mpr ⟨tm_155, List.forall_mem_cons.mpr ⟨tm_156, List.forall_mem_cons.mpr ⟨tm_157, List.forall_mem_cons.mpr ⟨tm_158, List.forall_mem_cons.mpr ⟨tm_159, fun _ h => absurd h List.not_mem_nil⟩⟩⟩⟩⟩⟩⟩⟩⟩⟩⟩⟩⟩⟩⟩⟩⟩⟩⟩⟩⟩⟩⟩⟩⟩⟩⟩⟩⟩⟩⟩⟩⟩⟩⟩⟩⟩⟩⟩⟩
def xML_4 : List xMe := [(xm_160, yX6_best, cX6_best, 3), (xm_161, yX6_ith, cX6_ith, 4), (xm_162, yX6_countsWays, cX6_countsWays, 5), (xm_163, yX6_ways, cX6_ways, 1), (xm_164, yX6_lasts, cX6_lasts, 5), (xm_165, yX6_place, cX6_place, 8), (xm_166, yX6_allAhead, cX6_allAhead, 5), (xm_167, yX6_all, cX6_all, 2), (xm_168, yX6_clash, cX6_clash, 3), (xm_169, yX6_broken, cX6_broken, 4), (xm_170, yX6_between, cX6_between, 7), (xm_171, yX6_kindFor, cX6_kindFor, 7), (xm_172, yX6_findsFreed, cX6_findsFreed, 7), (xm_173, yX6_freed, cX6_freed, 2), (xm_174, yX6_free, cX6_free, 2), (xm_175, yX6_train, cX6_train, 4), (xm_176, yX6_isAsked, cX6_isAsked, 3), (xm_177, yX6_fits, cX6_fits, 6), (xm_178, yX6_love, cX6_love, 6), (xm_179, yX6_silentAt, cX6_silentAt, 3), (xm_180, yX6_tens, cX6_tens, 4), (xm_181, yX6_worthFrom, cX6_worthFrom, 7), (xm_182, yX6_curtain, cX6_curtain, 13), (xm_183, yX6_stop, cX6_stop, 2), (xm_184, yX6_draw, cX6_draw, 1), (xm_185, yX6_evening, cX6_evening, 5), (xm_186, yX6_lot, cX6_lot, 6), (xm_187, yX6_seed, cX6_seed, 3), (xm_188, yX6_setsAside, cX6_setsAside, 2), (xm_189, yX6_laysBack, cX6_laysBack, 2), (xm_190, yX6_feed, cX6_feed, 4), (xm_191, yX6_wipe, cX6_wipe, 2), (xm_192, yX6_isLetter, cX6_isLetter, 1), (xm_193, yX6_isDigit, cX6_isDigit, 1), (xm_194, yX6_nextToken, cX6_nextToken, 1), (xm_195, yX6_wordOf, cX6_wordOf, 7), (xm_196, yX6_takesNumber, cX6_takesNumber, 4), (xm_197, yX6_readsBow, cX6_readsBow, 6), (xm_198, yX6_readsContract, cX6_readsContract, 3), (xm_199, yX6_readsItem, cX6_readsItem, 4)]
theorem tml_4 : ∀ e ∈ xML_4, Pm e := by
  unfold xML_4
  exact List.forall_mem_cons.mpr ⟨tm_160, List.forall_mem_cons.mpr ⟨tm_161, List.forall_mem_cons.mpr ⟨tm_162, List.forall_mem_cons.mpr ⟨tm_163, List.forall_mem_cons.mpr ⟨tm_164, List.forall_mem_cons.mpr ⟨tm_165, List.forall_mem_cons.mpr ⟨tm_166, List.forall_mem_cons.mpr ⟨tm_167, List.forall_mem_cons.mpr ⟨tm_168, List.forall_mem_cons.mpr ⟨tm_169, List.forall_mem_cons.mpr ⟨tm_170, List.forall_mem_cons.mpr ⟨tm_171, List.forall_mem_cons.mpr ⟨tm_172, List.forall_mem_cons.mpr ⟨tm_173, List.forall_mem_cons.mpr ⟨tm_174, List.forall_mem_cons.mpr ⟨tm_175, List.forall_mem_cons.mpr ⟨tm_176, List.forall_mem_cons.mpr ⟨tm_177, List.forall_mem_cons.mpr ⟨tm_178, List.forall_mem_cons.mpr ⟨tm_179, List.forall_mem_cons.mpr ⟨tm_180, List.forall_mem_cons.mpr ⟨tm_181, List.forall_mem_cons.mpr ⟨tm_182, List.forall_mem_cons.mpr ⟨tm_183, List.forall_mem_cons.mpr ⟨tm_184, List.forall_mem_cons.mpr ⟨tm_185, List.forall_mem_cons.mpr ⟨tm_186, List.forall_mem_cons.mpr ⟨tm_187, List.forall_mem_cons.mpr ⟨tm_188, List.forall_mem_cons.mpr ⟨tm_189, List.forall_mem_cons.mpr ⟨tm_190, List.forall_mem_cons.mpr ⟨tm_191, List.forall_mem_cons.mpr ⟨tm_192, List.forall_mem_cons.mpr ⟨tm_193, List.forall_mem_cons.mpr ⟨tm_194, List.forall_mem_cons.mpr ⟨tm_195, List.forall_mem_cons.mpr ⟨tm_196, List.forall_mem_cons.mpr ⟨tm_197, List.forall_mem_cons.mpr ⟨tm_198, List.forall_mem_cons.mpr ⟨tm_199, fun _ h => absurd h List.not_mem_nil⟩⟩⟩⟩⟩⟩⟩⟩⟩⟩⟩⟩⟩⟩⟩⟩⟩⟩⟩⟩⟩⟩⟩⟩⟩⟩⟩⟩⟩⟩⟩⟩⟩⟩⟩⟩⟩⟩⟩⟩
def xML_5 : List xMe := [(xm_200, yX6_text, cX6_text, 3), (xm_201, yX6_isSpot, cX6_isSpot, 1), (xm_202, yX6_hold, cX6_hold, 3), (xm_203, yX6_above, cX6_above, 1), (xm_204, yX6_isSheet, cX6_isSheet, 1), (xm_205, yX6_wrongSheet, cX6_wrongSheet, 2), (xm_206, yX6_as, cX6_as, 5), (xm_207, yX6_sheet, cX6_sheet, 5), (xm_208, yX6_write, cX6_write, 5), (xm_209, yX6_copy, cX6_copy, 7), (xm_210, yX6_load, cX6_load, 4), (xm_211, yX6_comeOf, cX6_comeOf, 6), (xm_212, yX6_judge, cX6_judge, 4), (xm_213, yX6_loud, cX6_loud, 4), (xm_214, yX6_image, cX6_image, 2), (xm_215, yX6_undo, cX6_undo, 2), (xm_216, yX6_tear, cX6_tear, 2), (xm_217, yX6_count, cX6_count, 4), (xm_218, yX6_status, cX6_status, 4), (xm_219, yJ6_bitCount_0f7a4, cJ6_bitCount_0f7a4, 1), (xm_220, yJ0_length_8abf5, cJ0_length_8abf5, 1), (xm_221, yJ0_charAt_5068e, cJ0_charAt_5068e, 2), (xm_222, yJ0_coder_7d493, cJ0_coder_7d493, 1), (xm_223, yJ0_isLatin1_aae02, cJ0_isLatin1_aae02, 1), (xm_224, yJ0_checkIndex_df160, cJ0_checkIndex_df160, 2), (xm_225, yJ1_charAt_3b067, cJ1_charAt_3b067, 2), (xm_226, yJ3_checkIndex_8e157, cJ3_checkIndex_8e157, 3), (xm_227, yX1_init, cX1_init, 1), (xm_228, yX2_init, cX2_init, 1), (xm_229, yX3_init, cX3_init, 1), (xm_230, yX4_init, cX4_init, 1), (xm_231, yX5_init, cX5_init, 1), (xm_232, yX6_init, cX6_init, 2)]
theorem tml_5 : ∀ e ∈ xML_5, Pm e := by
  unfold xML_5
  exact List.forall_mem_cons.mpr ⟨tm_200, List.forall_mem_cons.mpr ⟨tm_201, List.forall_mem_cons.mpr ⟨tm_202, List.forall_mem_cons.mpr ⟨tm_203, List.forall_mem_cons.mpr ⟨tm_204, List.forall_mem_cons.mpr ⟨tm_205, List.forall_mem_cons.mpr ⟨tm_206, List.forall_mem_cons.mpr ⟨tm_207, List.forall_mem_cons.mpr ⟨tm_208, List.forall_mem_cons.mpr ⟨tm_209, List.forall_mem_cons.mpr ⟨tm_210, List.forall_mem_cons.mpr ⟨tm_211, List.forall_mem_cons.mpr ⟨tm_212, List.forall_mem_cons.mpr ⟨tm_213, List.forall_mem_cons.mpr ⟨tm_214, List.forall_mem_cons.mpr ⟨tm_215, List.forall_mem_cons.mpr ⟨tm_216, List.forall_mem_cons.mpr ⟨tm_217, List.forall_mem_cons.mpr ⟨tm_218, List.forall_mem_cons.mpr ⟨tm_219, List.forall_mem_cons.mpr ⟨tm_220, List.forall_mem_cons.mpr ⟨tm_221, List.forall_mem_cons.mpr ⟨tm_222, List.forall_mem_cons.mpr ⟨tm_223, List.forall_mem_cons.mpr ⟨tm_224, List.forall_mem_cons.mpr ⟨tm_225, List.forall_mem_cons.mpr ⟨tm_226, List.forall_mem_cons.mpr ⟨tm_227, List.forall_mem_cons.mpr ⟨tm_228, List.forall_mem_cons.mpr ⟨tm_229, List.forall_mem_cons.mpr ⟨tm_230, List.forall_mem_cons.mpr ⟨tm_231, List.forall_mem_cons.mpr ⟨tm_232, fun _ h => absurd h List.not_mem_nil⟩⟩⟩⟩⟩⟩⟩⟩⟩⟩⟩⟩⟩⟩⟩⟩⟩⟩⟩⟩⟩⟩⟩⟩⟩⟩⟩⟩⟩⟩⟩⟩⟩
def yRL_law : MethodName := ⟨RL, "law", "([I)Z"⟩
def xMLa : List xMe := xML_0 ++ (xML_1 ++ (xML_2 ++ (xML_3 ++ (xML_4 ++ (xML_5)))))
theorem tmla : ∀ e ∈ xMLa, Pm e := by
  intro e h
  unfold xMLa at h
  simp only [List.mem_append] at h
  rcases h with h | h | h | h | h | h
  · exact tml_0 e h
  · exact tml_1 e h
  · exact tml_2 e h
  · exact tml_3 e h
  · exact tml_4 e h
  · exact tml_5 e h
set_option maxRecDepth 100000 in
theorem tmo_law_0 : xm_233_0.all (fun r => xenok cL_law 4 r) = true := by decide +kernel
set_option maxRecDepth 100000 in
theorem tmo_law_1 : xm_233_1.all (fun r => xenok cL_law 4 r) = true := by decide +kernel
set_option maxRecDepth 100000 in
theorem tmo_law_7 : xm_233_7.all (fun r => xenok cL_law 4 r) = true := by decide +kernel
set_option maxRecDepth 100000 in
theorem tmo_law_8 : xm_233_8.all (fun r => xenok cL_law 4 r) = true := by decide +kernel
set_option maxRecDepth 100000 in
theorem tmo_law_9 : xm_233_9.all (fun r => xenok cL_law 4 r) = true := by decide +kernel
set_option maxRecDepth 100000 in
theorem tmo_law_10 : xm_233_10.all (fun r => xenok cL_law 4 r) = true := by decide +kernel
set_option maxRecDepth 100000 in
theorem tmo_law_11 : xm_233_11.all (fun r => xenok cL_law 4 r) = true := by decide +kernel
set_option maxRecDepth 100000 in
theorem tmo_law_12 : xm_233_12.all (fun r => xenok cL_law 4 r) = true := by decide +kernel
set_option maxRecDepth 100000 in
theorem tmo_law_13 : xm_233_13.all (fun r => xenok cL_law 4 r) = true := by decide +kernel
set_option maxRecDepth 100000 in
theorem tmo_law_14 : xm_233_14.all (fun r => xenok cL_law 4 r) = true := by decide +kernel
set_option maxRecDepth 100000 in
theorem tmo_law_15 : xm_233_15.all (fun r => xenok cL_law 4 r) = true := by decide +kernel
set_option maxRecDepth 100000 in
theorem tmo_law_16 : xm_233_16.all (fun r => xenok cL_law 4 r) = true := by decide +kernel
set_option maxRecDepth 100000 in
theorem tmo_law_17 : xm_233_17.all (fun r => xenok cL_law 4 r) = true := by decide +kernel
set_option maxRecDepth 100000 in
theorem tmo_law_18 : xm_233_18.all (fun r => xenok cL_law 4 r) = true := by decide +kernel
set_option maxRecDepth 100000 in
theorem tmo_law_19 : xm_233_19.all (fun r => xenok cL_law 4 r) = true := by decide +kernel
set_option maxRecDepth 100000 in
theorem tmo_law_20 : xm_233_20.all (fun r => xenok cL_law 4 r) = true := by decide +kernel
set_option maxRecDepth 100000 in
theorem tmo_law_21 : xm_233_21.all (fun r => xenok cL_law 4 r) = true := by decide +kernel
set_option maxRecDepth 100000 in
theorem tmo_law_22 : xm_233_22.all (fun r => xenok cL_law 4 r) = true := by decide +kernel
set_option maxRecDepth 100000 in
theorem tmo_law_23 : xm_233_23.all (fun r => xenok cL_law 4 r) = true := by decide +kernel
set_option maxRecDepth 100000 in
theorem tmo_law_24 : xm_233_24.all (fun r => xenok cL_law 4 r) = true := by decide +kernel
set_option maxRecDepth 100000 in
theorem tmo_law_25 : xm_233_25.all (fun r => xenok cL_law 4 r) = true := by decide +kernel
set_option maxRecDepth 100000 in
theorem tmo_law_26 : xm_233_26.all (fun r => xenok cL_law 4 r) = true := by decide +kernel
set_option maxRecDepth 100000 in
theorem tmo_law_27 : xm_233_27.all (fun r => xenok cL_law 4 r) = true := by decide +kernel
set_option maxRecDepth 100000 in
theorem tmo_law_28 : xm_233_28.all (fun r => xenok cL_law 4 r) = true := by decide +kernel
set_option maxRecDepth 100000 in
theorem tmo_law_29 : xm_233_29.all (fun r => xenok cL_law 4 r) = true := by decide +kernel
set_option maxRecDepth 100000 in
theorem tmo_law_30 : xm_233_30.all (fun r => xenok cL_law 4 r) = true := by decide +kernel
set_option maxRecDepth 100000 in
theorem tmo_law_31 : xm_233_31.all (fun r => xenok cL_law 4 r) = true := by decide +kernel
set_option maxRecDepth 100000 in
theorem tmo_law_32 : xm_233_32.all (fun r => xenok cL_law 4 r) = true := by decide +kernel
set_option maxRecDepth 100000 in
theorem tmo_law_33 : xm_233_33.all (fun r => xenok cL_law 4 r) = true := by decide +kernel
set_option maxRecDepth 100000 in
theorem tmo_law_34 : xm_233_34.all (fun r => xenok cL_law 4 r) = true := by decide +kernel
set_option maxRecDepth 100000 in
theorem tmo_law_35 : xm_233_35.all (fun r => xenok cL_law 4 r) = true := by decide +kernel
set_option maxRecDepth 100000 in
theorem tmo_law_36 : xm_233_36.all (fun r => xenok cL_law 4 r) = true := by decide +kernel
set_option maxRecDepth 100000 in
theorem tmo_law_37 : xm_233_37.all (fun r => xenok cL_law 4 r) = true := by decide +kernel
set_option maxRecDepth 100000 in
theorem tmo_law_38 : xm_233_38.all (fun r => xenok cL_law 4 r) = true := by decide +kernel
set_option maxRecDepth 100000 in
theorem tmo_law_39 : xm_233_39.all (fun r => xenok cL_law 4 r) = true := by decide +kernel
set_option maxRecDepth 100000 in
theorem tmo_law_40 : xm_233_40.all (fun r => xenok cL_law 4 r) = true := by decide +kernel
set_option maxRecDepth 100000 in
theorem tmo_law_41 : xm_233_41.all (fun r => xenok cL_law 4 r) = true := by decide +kernel
set_option maxRecDepth 100000 in
theorem tmo_law_42 : xm_233_42.all (fun r => xenok cL_law 4 r) = true := by decide +kernel
set_option maxRecDepth 100000 in
theorem tmo_law_43 : xm_233_43.all (fun r => xenok cL_law 4 r) = true := by decide +kernel
set_option maxRecDepth 100000 in
theorem tmo_law_44 : xm_233_44.all (fun r => xenok cL_law 4 r) = true := by decide +kernel
theorem tmo_law : xmok cL_law 4 xm_233 := by
  refine ⟨?_, ?_⟩
  · show ∀ ch ∈ [xm_233_0, xm_233_1, [], [], [], [], [], xm_233_7, xm_233_8, xm_233_9, xm_233_10, xm_233_11, xm_233_12, xm_233_13, xm_233_14, xm_233_15, xm_233_16, xm_233_17, xm_233_18, xm_233_19, xm_233_20, xm_233_21, xm_233_22, xm_233_23, xm_233_24, xm_233_25, xm_233_26, xm_233_27, xm_233_28, xm_233_29, xm_233_30, xm_233_31, xm_233_32, xm_233_33, xm_233_34, xm_233_35, xm_233_36, xm_233_37, xm_233_38, xm_233_39, xm_233_40, xm_233_41, xm_233_42, xm_233_43, xm_233_44], ∀ r ∈ ch, xenok cL_law 4 r = true
    exact List.forall_mem_cons.mpr ⟨fun r h => List.all_eq_true.mp tmo_law_0 r h, List.forall_mem_cons.mpr ⟨fun r h => List.all_eq_true.mp tmo_law_1 r h, List.forall_mem_cons.mpr ⟨fun _ h => absurd h List.not_mem_nil, List.forall_mem_cons.mpr ⟨fun _ h => absurd h List.not_mem_nil, List.forall_mem_cons.mpr ⟨fun _ h => absurd h List.not_mem_nil, List.forall_mem_cons.mpr ⟨fun _ h => absurd h List.not_mem_nil, List.forall_mem_cons.mpr ⟨fun _ h => absurd h List.not_mem_nil, List.forall_mem_cons.mpr ⟨fun r h => List.all_eq_true.mp tmo_law_7 r h, List.forall_mem_cons.mpr ⟨fun r h => List.all_eq_true.mp tmo_law_8 r h, List.forall_mem_cons.mpr ⟨fun r h => List.all_eq_true.mp tmo_law_9 r h, List.forall_mem_cons.mpr ⟨fun r h => List.all_eq_true.mp tmo_law_10 r h, List.forall_mem_cons.mpr ⟨fun r h => List.all_eq_true.mp tmo_law_11 r h, List.forall_mem_cons.mpr ⟨fun r h => List.all_eq_true.mp tmo_law_12 r h, List.forall_mem_cons.mpr ⟨fun r h => List.all_eq_true.mp tmo_law_13 r h, List.forall_mem_cons.mpr ⟨fun r h => List.all_eq_true.mp tmo_law_14 r h, List.forall_mem_cons.mpr ⟨fun r h => List.all_eq_true.mp tmo_law_15 r h, List.forall_mem_cons.mpr ⟨fun r h => List.all_eq_true.mp tmo_law_16 r h, List.forall_mem_cons.mpr ⟨fun r h => List.all_eq_true.mp tmo_law_17 r h, List.forall_mem_cons.mpr ⟨fun r h => List.all_eq_true.mp tmo_law_18 r h, List.forall_mem_cons.mpr ⟨fun r h => List.all_eq_true.mp tmo_law_19 r h, List.forall_mem_cons.mpr ⟨fun r h => List.all_eq_true.mp tmo_law_20 r h, List.forall_mem_cons.mpr ⟨fun r h => List.all_eq_true.mp tmo_law_21 r h, List.forall_mem_cons.mpr ⟨fun r h => List.all_eq_true.mp tmo_law_22 r h, List.forall_mem_cons.mpr ⟨fun r h => List.all_eq_true.mp tmo_law_23 r h, List.forall_mem_cons.mpr ⟨fun r h => List.all_eq_true.mp tmo_law_24 r h, List.forall_mem_cons.mpr ⟨fun r h => List.all_eq_true.mp tmo_law_25 r h, List.forall_mem_cons.mpr ⟨fun r h => List.all_eq_true.mp tmo_law_26 r h, List.forall_mem_cons.mpr ⟨fun r h => List.all_eq_true.mp tmo_law_27 r h, List.forall_mem_cons.mpr ⟨fun r h => List.all_eq_true.mp tmo_law_28 r h, List.forall_mem_cons.mpr ⟨fun r h => List.all_eq_true.mp tmo_law_29 r h, List.forall_mem_cons.mpr ⟨fun r h => List.all_eq_true.mp tmo_law_30 r h, List.forall_mem_cons.mpr ⟨fun r h => List.all_eq_true.mp tmo_law_31 r h, List.forall_mem_cons.mpr ⟨fun r h => List.all_eq_true.mp tmo_law_32 r h, List.forall_mem_cons.mpr ⟨fun r h => List.all_eq_true.mp tmo_law_33 r h, List.forall_mem_cons.mpr ⟨fun r h => List.all_eq_true.mp tmo_law_34 r h, List.forall_mem_cons.mpr ⟨fun r h => List.all_eq_true.mp tmo_law_35 r h, List.forall_mem_cons.mpr ⟨fun r h => List.all_eq_true.mp tmo_law_36 r h, List.forall_mem_cons.mpr ⟨fun r h => List.all_eq_true.mp tmo_law_37 r h, List.forall_mem_cons.mpr ⟨fun r h => List.all_eq_true.mp tmo_law_38 r h, List.forall_mem_cons.mpr ⟨fun r h => List.all_eq_true.mp tmo_law_39 r h, List.forall_mem_cons.mpr ⟨fun r h => List.all_eq_true.mp tmo_law_40 r h, List.forall_mem_cons.mpr ⟨fun r h => List.all_eq_true.mp tmo_law_41 r h, List.forall_mem_cons.mpr ⟨fun r h => List.all_eq_true.mp tmo_law_42 r h, List.forall_mem_cons.mpr ⟨fun r h => List.all_eq_true.mp tmo_law_43 r h, List.forall_mem_cons.mpr ⟨fun r h => List.all_eq_true.mp tmo_law_44 r h, fun _ h => absurd h List.not_mem_nil⟩⟩⟩⟩⟩⟩⟩⟩⟩⟩⟩⟩⟩⟩⟩⟩⟩⟩⟩⟩⟩⟩⟩⟩⟩⟩⟩⟩⟩⟩⟩⟩⟩⟩⟩⟩⟩⟩⟩⟩⟩⟩⟩⟩⟩
  · decide
def xML : List xMe := xMLa ++ [(xm_233, yRL_law, cL_law, 4)]
def xYL : xYt := xML.map (fun e => e.2)
set_option maxRecDepth 100000 in
theorem xMT_eq : xMT = xML.map (fun e => e.1) := rfl
set_option maxRecDepth 100000 in
theorem xML_len : xML.length = xMLa.length + 1 := by unfold xML; rw [List.length_append]; rfl
theorem xMLa_lt : xMLa.length + 1 = xMT.length := by rw [xMT_eq, List.length_map, xML_len]
theorem t_M1 : xTM1 xYL := by
  intro k M h
  rw [xMT_eq, xnth_get, List.getElem?_map] at h
  obtain ⟨e, he, rfl⟩ := Option.map_eq_some_iff.mp h
  have hy : xnth xYL k = some e.2 := by rw [xnth_get]; unfold xYL; rw [List.getElem?_map, he]; rfl
  by_cases hk : k < xMLa.length
  · have hm : e ∈ xMLa := by
      unfold xML at he
      rw [List.getElem?_append_left hk] at he
      exact List.mem_of_getElem? he
    obtain ⟨p1, p2, p3, p4, p5, p6⟩ := tmla e hm
    exact ⟨_, _, _, hy, p1, Or.inr p2, p3, p4, p5, p6⟩
  · have hlt := (List.getElem?_eq_some_iff.mp he).1
    have hl : xML.length = xMLa.length + 1 := xML_len
    have hkk : k = xMLa.length := by omega
    have hee : e = (xm_233, yRL_law, cL_law, 4) := by
      unfold xML at he
      rw [List.getElem?_append_right (by omega), hkk, Nat.sub_self] at he
      exact (Option.some.inj he).symm
    subst hee
    exact ⟨_, _, _, hy, rfl, Or.inl (by rw [xMT_eq, List.length_map, hl, hkk]), by decide, rfl, tmo_law, fun h => absurd h (by decide)⟩
end
section
/-! the tables are right, 2 (by gen/tabok.py) -/

def Ptc (own : Nat) (e : Nat × Nat × Nat × Nat × Nat) : Prop :=
  (e.2.1 = 0 ∧ e.2.2.1 + 1 ≠ xMT.length ∧ e.2.2.2.2 = 0 ∧ ∃ y cc mL, xnth xYL e.2.2.1 = some (y, cc, mL) ∧ xnm y e.2.2.2.1 ∧ Cond.static y ∈ xTs ∧ Cond.initialized y.cls ∈ xTs ∧ xlnk own e.1 y) ∨
  (e.2.1 = 1 ∧ e.2.2.1 + 1 ≠ xMT.length ∧ ∃ y cc mL n1, xnth xYL e.2.2.1 = some (y, cc, mL) ∧ e.2.2.2.1 = n1 + 1 ∧ xnm y n1 ∧ Cond.methodLink (xR own) e.1 y ∈ xTs ∧ Cond.instanceMethod y ∈ xTs ∧ Cond.selects y.cls y y ∈ xTs ∧ Cond.initialized y.cls ∈ xTs ∧ ((∃ ci, e.2.2.2.2 = ci + 1 ∧ ci ≠ 100 ∧ ∃ T N, vwCl[ci]? = some (y.cls, T, N)) ∨ (e.2.2.2.2 = 101 ∧ y.cls = RJ0))) ∨
  (e.2.1 = 2 ∧ e.2.2.1 + 1 ≠ xMT.length ∧ (∃ M', xnth xMT e.2.2.1 = some M' ∧ M'.2.2.2.1 = none) ∧ ∃ y cc mL n1, xnth xYL e.2.2.1 = some (y, cc, mL) ∧ e.2.2.2.1 = n1 + 1 ∧ xnm y n1 ∧ y.name = "<init>" ∧ Cond.instanceMethod y ∈ xTs ∧ Cond.initialized y.cls ∈ xTs ∧ xlnk own e.1 y ∧ 1 ≤ e.2.2.2.2 ∧ e.2.2.2.2 ≤ 6) ∨
  (e.2.1 = 3 ∧ Cond.methodLink (xR own) e.1 arraycopyName ∈ xTs) ∨ (e.2.1 = 4 ∧ Cond.methodLink (xR own) e.1 objectInit ∈ xTs) ∨
  (e.2.1 = 5 ∧ Cond.methodLink (xR own) e.1 Lib.Math.max.name ∈ xTs) ∨ (e.2.1 = 6 ∧ Cond.methodLink (xR own) e.1 Lib.Math.min.name ∈ xTs) ∨ (e.2.1 = 7 ∧ Cond.methodLink (xR own) e.1 Lib.MathLoose.max_long.x ∈ xTs)
theorem tc_0_0 : Ptc 0 (9, 0, 1, 2, 0) := Or.inl (⟨rfl, by decide +kernel, rfl, yX0_fallingNoise, cX0_fallingNoise, 2, rfl, ⟨by decide +kernel, by decide +kernel, by decide +kernel⟩, (xTs_in (tin_2 _ (List.mem_of_getElem? (i := 55) rfl)) rfl), (xTs_in (tin_1 _ (List.mem_of_getElem? (i := 7) rfl)) rfl), Or.inl (xTs_in (tin_2 _ (List.mem_of_getElem? (i := 54) rfl)) rfl)⟩)
theorem tc_0_1 : Ptc 0 (15, 5, 0, 2, 0) := Or.inr (Or.inr (Or.inr (Or.inr (Or.inr (Or.inl (⟨rfl, (xTs_in (tin_2 _ (List.mem_of_getElem? (i := 39) rfl)) rfl)⟩))))))
theorem tc_0 : ∀ e ∈ xCT.getD 0 [], Ptc 0 e := by
  show ∀ e ∈ [(9, 0, 1, 2, 0), (15, 5, 0, 2, 0)], Ptc 0 e
  exact List.forall_mem_cons.mpr ⟨tc_0_0, List.forall_mem_cons.mpr ⟨tc_0_1, fun _ h => absurd h List.not_mem_nil⟩⟩
theorem tc_1_0 : Ptc 1 (3, 4, 0, 1, 0) := Or.inr (Or.inr (Or.inr (Or.inr (Or.inl (⟨rfl, (xTs_in (tin_1 _ (List.mem_of_getElem? (i := 106) rfl)) rfl)⟩)))))
theorem tc_1_1 : Ptc 1 (63, 3, 0, 5, 0) := Or.inr (Or.inr (Or.inr (Or.inl (⟨rfl, (xTs_in (tin_2 _ (List.mem_of_getElem? (i := 139) rfl)) rfl)⟩))))
theorem tc_1_2 : Ptc 1 (71, 0, 219, 1, 0) := Or.inl (⟨rfl, by decide +kernel, rfl, yJ6_bitCount_0f7a4, cJ6_bitCount_0f7a4, 1, rfl, ⟨by decide +kernel, by decide +kernel, by decide +kernel⟩, (xTs_in (tin_2 _ (List.mem_of_getElem? (i := 183) rfl)) rfl), (xTs_in (tin_1 _ (List.mem_of_getElem? (i := 10) rfl)) rfl), Or.inl (xTs_in (tin_2 _ (List.mem_of_getElem? (i := 182) rfl)) rfl)⟩)
theorem tc_1_3 : Ptc 1 (77, 1, 7, 3, 1) := Or.inr (Or.inl (⟨rfl, by decide +kernel, yX1_canFollow, cX1_canFollow, 3, 2, rfl, rfl, ⟨by decide +kernel, by decide +kernel, by decide +kernel⟩, (xTs_in (tin_2 _ (List.mem_of_getElem? (i := 146) rfl)) rfl), (xTs_in (tin_2 _ (List.mem_of_getElem? (i := 148) rfl)) rfl), (xTs_in (tpr_1 _ (List.mem_of_getElem? (i := 1) rfl)) rfl), (xTs_in (tin_1 _ (List.mem_of_getElem? (i := 3) rfl)) rfl), Or.inl ⟨0, rfl, by decide, _, _, rfl⟩⟩))
theorem tc_1_4 : Ptc 1 (81, 0, 2, 2, 0) := Or.inl (⟨rfl, by decide +kernel, rfl, yX0_leftBy, cX0_leftBy, 2, rfl, ⟨by decide +kernel, by decide +kernel, by decide +kernel⟩, (xTs_in (tin_2 _ (List.mem_of_getElem? (i := 30) rfl)) rfl), (xTs_in (tin_1 _ (List.mem_of_getElem? (i := 7) rfl)) rfl), Or.inl (xTs_in (tin_2 _ (List.mem_of_getElem? (i := 158) rfl)) rfl)⟩)
theorem tc_1_5 : Ptc 1 (87, 0, 0, 3, 0) := Or.inl (⟨rfl, by decide +kernel, rfl, yX0_noiseOf, cX0_noiseOf, 3, rfl, ⟨by decide +kernel, by decide +kernel, by decide +kernel⟩, (xTs_in (tin_2 _ (List.mem_of_getElem? (i := 52) rfl)) rfl), (xTs_in (tin_1 _ (List.mem_of_getElem? (i := 7) rfl)) rfl), Or.inl (xTs_in (tin_2 _ (List.mem_of_getElem? (i := 159) rfl)) rfl)⟩)
theorem tc_1_6 : Ptc 1 (91, 1, 10, 2, 1) := Or.inr (Or.inl (⟨rfl, by decide +kernel, yX1_score, cX1_score, 6, 1, rfl, rfl, ⟨by decide +kernel, by decide +kernel, by decide +kernel⟩, (xTs_in (tin_2 _ (List.mem_of_getElem? (i := 154) rfl)) rfl), (xTs_in (tin_2 _ (List.mem_of_getElem? (i := 156) rfl)) rfl), (xTs_in (tpr_1 _ (List.mem_of_getElem? (i := 2) rfl)) rfl), (xTs_in (tin_1 _ (List.mem_of_getElem? (i := 3) rfl)) rfl), Or.inl ⟨0, rfl, by decide, _, _, rfl⟩⟩))
theorem tc_1_7 : Ptc 1 (95, 1, 9, 2, 1) := Or.inr (Or.inl (⟨rfl, by decide +kernel, yX1_canStand, cX1_canStand, 4, 1, rfl, rfl, ⟨by decide +kernel, by decide +kernel, by decide +kernel⟩, (xTs_in (tin_2 _ (List.mem_of_getElem? (i := 160) rfl)) rfl), (xTs_in (tin_2 _ (List.mem_of_getElem? (i := 162) rfl)) rfl), (xTs_in (tpr_1 _ (List.mem_of_getElem? (i := 3) rfl)) rfl), (xTs_in (tin_1 _ (List.mem_of_getElem? (i := 3) rfl)) rfl), Or.inl ⟨0, rfl, by decide, _, _, rfl⟩⟩))
theorem tc_1_8 : Ptc 1 (99, 1, 12, 2, 1) := Or.inr (Or.inl (⟨rfl, by decide +kernel, yX1_findFollowers, cX1_findFollowers, 3, 1, rfl, rfl, ⟨by decide +kernel, by decide +kernel, by decide +kernel⟩, (xTs_in (tin_2 _ (List.mem_of_getElem? (i := 164) rfl)) rfl), (xTs_in (tin_2 _ (List.mem_of_getElem? (i := 166) rfl)) rfl), (xTs_in (tpr_1 _ (List.mem_of_getElem? (i := 4) rfl)) rfl), (xTs_in (tin_1 _ (List.mem_of_getElem? (i := 3) rfl)) rfl), Or.inl ⟨0, rfl, by decide, _, _, rfl⟩⟩))
theorem tc_1_9 : Ptc 1 (102, 1, 13, 2, 1) := Or.inr (Or.inl (⟨rfl, by decide +kernel, yX1_mostBehind, cX1_mostBehind, 4, 1, rfl, rfl, ⟨by decide +kernel, by decide +kernel, by decide +kernel⟩, (xTs_in (tin_2 _ (List.mem_of_getElem? (i := 168) rfl)) rfl), (xTs_in (tin_2 _ (List.mem_of_getElem? (i := 170) rfl)) rfl), (xTs_in (tpr_1 _ (List.mem_of_getElem? (i := 5) rfl)) rfl), (xTs_in (tin_1 _ (List.mem_of_getElem? (i := 3) rfl)) rfl), Or.inl ⟨0, rfl, by decide, _, _, rfl⟩⟩))
theorem tc_1_10 : Ptc 1 (109, 5, 0, 2, 0) := Or.inr (Or.inr (Or.inr (Or.inr (Or.inr (Or.inl (⟨rfl, (xTs_in (tin_2 _ (List.mem_of_getElem? (i := 173) rfl)) rfl)⟩))))))
theorem tc_1_11 : Ptc 1 (114, 1, 11, 2, 1) := Or.inr (Or.inl (⟨rfl, by decide +kernel, yX1_weigh, cX1_weigh, 4, 1, rfl, rfl, ⟨by decide +kernel, by decide +kernel, by decide +kernel⟩, (xTs_in (tin_2 _ (List.mem_of_getElem? (i := 192) rfl)) rfl), (xTs_in (tin_2 _ (List.mem_of_getElem? (i := 151) rfl)) rfl), (xTs_in (tin_2 _ (List.mem_of_getElem? (i := 152) rfl)) rfl), (xTs_in (tin_1 _ (List.mem_of_getElem? (i := 3) rfl)) rfl), Or.inl ⟨0, rfl, by decide, _, _, rfl⟩⟩))
theorem tc_1_12 : Ptc 1 (117, 1, 6, 1, 1) := Or.inr (Or.inl (⟨rfl, by decide +kernel, yX1_rest, cX1_rest, 1, 0, rfl, rfl, ⟨by decide +kernel, by decide +kernel, by decide +kernel⟩, (xTs_in (tin_2 _ (List.mem_of_getElem? (i := 193) rfl)) rfl), (xTs_in (tin_2 _ (List.mem_of_getElem? (i := 179) rfl)) rfl), (xTs_in (tin_2 _ (List.mem_of_getElem? (i := 180) rfl)) rfl), (xTs_in (tin_1 _ (List.mem_of_getElem? (i := 3) rfl)) rfl), Or.inl ⟨0, rfl, by decide, _, _, rfl⟩⟩))
theorem tc_1_13 : Ptc 1 (121, 1, 15, 2, 1) := Or.inr (Or.inl (⟨rfl, by decide +kernel, yX1_firstBehind, cX1_firstBehind, 4, 1, rfl, rfl, ⟨by decide +kernel, by decide +kernel, by decide +kernel⟩, (xTs_in (tin_2 _ (List.mem_of_getElem? (i := 194) rfl)) rfl), (xTs_in (tin_2 _ (List.mem_of_getElem? (i := 196) rfl)) rfl), (xTs_in (tpr_1 _ (List.mem_of_getElem? (i := 6) rfl)) rfl), (xTs_in (tin_1 _ (List.mem_of_getElem? (i := 3) rfl)) rfl), Or.inl ⟨0, rfl, by decide, _, _, rfl⟩⟩))
theorem tc_1_14 : Ptc 1 (124, 1, 18, 3, 1) := Or.inr (Or.inl (⟨rfl, by decide +kernel, yX1_allAhead, cX1_allAhead, 6, 2, rfl, rfl, ⟨by decide +kernel, by decide +kernel, by decide +kernel⟩, (xTs_in (tin_2 _ (List.mem_of_getElem? (i := 226) rfl)) rfl), (xTs_in (tin_2 _ (List.mem_of_getElem? (i := 227) rfl)) rfl), (xTs_in (tin_2 _ (List.mem_of_getElem? (i := 228) rfl)) rfl), (xTs_in (tin_1 _ (List.mem_of_getElem? (i := 3) rfl)) rfl), Or.inl ⟨0, rfl, by decide, _, _, rfl⟩⟩))
theorem tc_1_15 : Ptc 1 (128, 6, 0, 2, 0) := Or.inr (Or.inr (Or.inr (Or.inr (Or.inr (Or.inr (Or.inl (⟨rfl, (xTs_in (tin_3 _ (List.mem_of_getElem? (i := 12) rfl)) rfl)⟩)))))))
theorem tc_1_16 : Ptc 1 (131, 1, 8, 1, 1) := Or.inr (Or.inl (⟨rfl, by decide +kernel, yX1_haveWay, cX1_haveWay, 4, 0, rfl, rfl, ⟨by decide +kernel, by decide +kernel, by decide +kernel⟩, (xTs_in (tin_3 _ (List.mem_of_getElem? (i := 35) rfl)) rfl), (xTs_in (tin_2 _ (List.mem_of_getElem? (i := 143) rfl)) rfl), (xTs_in (tin_2 _ (List.mem_of_getElem? (i := 144) rfl)) rfl), (xTs_in (tin_1 _ (List.mem_of_getElem? (i := 3) rfl)) rfl), Or.inl ⟨0, rfl, by decide, _, _, rfl⟩⟩))
theorem tc_1 : ∀ e ∈ xCT.getD 1 [], Ptc 1 e := by
  show ∀ e ∈ [(3, 4, 0, 1, 0), (63, 3, 0, 5, 0), (71, 0, 219, 1, 0), (77, 1, 7, 3, 1), (81, 0, 2, 2, 0), (87, 0, 0, 3, 0), (91, 1, 10, 2, 1), (95, 1, 9, 2, 1), (99, 1, 12, 2, 1), (102, 1, 13, 2, 1), (109, 5, 0, 2, 0), (114, 1, 11, 2, 1), (117, 1, 6, 1, 1), (121, 1, 15, 2, 1), (124, 1, 18, 3, 1), (128, 6, 0, 2, 0), (131, 1, 8, 1, 1)], Ptc 1 e
  exact List.forall_mem_cons.mpr ⟨tc_1_0, List.forall_mem_cons.mpr ⟨tc_1_1, List.forall_mem_cons.mpr ⟨tc_1_2, List.forall_mem_cons.mpr ⟨tc_1_3, List.forall_mem_cons.mpr ⟨tc_1_4, List.forall_mem_cons.mpr ⟨tc_1_5, List.forall_mem_cons.mpr ⟨tc_1_6, List.forall_mem_cons.mpr ⟨tc_1_7, List.forall_mem_cons.mpr ⟨tc_1_8, List.forall_mem_cons.mpr ⟨tc_1_9, List.forall_mem_cons.mpr ⟨tc_1_10, List.forall_mem_cons.mpr ⟨tc_1_11, List.forall_mem_cons.mpr ⟨tc_1_12, List.forall_mem_cons.mpr ⟨tc_1_13, List.forall_mem_cons.mpr ⟨tc_1_14, List.forall_mem_cons.mpr ⟨tc_1_15, List.forall_mem_cons.mpr ⟨tc_1_16, fun _ h => absurd h List.not_mem_nil⟩⟩⟩⟩⟩⟩⟩⟩⟩⟩⟩⟩⟩⟩⟩⟩⟩
theorem tc_2_0 : Ptc 2 (3, 4, 0, 1, 0) := Or.inr (Or.inr (Or.inr (Or.inr (Or.inl (⟨rfl, (xTs_in (tin_1 _ (List.mem_of_getElem? (i := 28) rfl)) rfl)⟩)))))
theorem tc_2_1 : Ptc 2 (58, 3, 0, 5, 0) := Or.inr (Or.inr (Or.inr (Or.inl (⟨rfl, (xTs_in (tin_3 _ (List.mem_of_getElem? (i := 128) rfl)) rfl)⟩))))
theorem tc_2_2 : Ptc 2 (64, 0, 116, 3, 0) := Or.inl (⟨rfl, by decide +kernel, rfl, yX5_isIn, cX5_isIn, 3, rfl, ⟨by decide +kernel, by decide +kernel, by decide +kernel⟩, (xTs_in (tin_2 _ (List.mem_of_getElem? (i := 6) rfl)) rfl), (xTs_in (tin_1 _ (List.mem_of_getElem? (i := 1) rfl)) rfl), Or.inr ⟨RX5, List.mem_of_getElem? (i := 4) rfl⟩⟩)
theorem tc_2_3 : Ptc 2 (68, 0, 0, 3, 0) := Or.inl (⟨rfl, by decide +kernel, rfl, yX0_noiseOf, cX0_noiseOf, 3, rfl, ⟨by decide +kernel, by decide +kernel, by decide +kernel⟩, (xTs_in (tin_2 _ (List.mem_of_getElem? (i := 52) rfl)) rfl), (xTs_in (tin_1 _ (List.mem_of_getElem? (i := 7) rfl)) rfl), Or.inl (xTs_in (tin_2 _ (List.mem_of_getElem? (i := 51) rfl)) rfl)⟩)
theorem tc_2_4 : Ptc 2 (74, 0, 2, 2, 0) := Or.inl (⟨rfl, by decide +kernel, rfl, yX0_leftBy, cX0_leftBy, 2, rfl, ⟨by decide +kernel, by decide +kernel, by decide +kernel⟩, (xTs_in (tin_2 _ (List.mem_of_getElem? (i := 30) rfl)) rfl), (xTs_in (tin_1 _ (List.mem_of_getElem? (i := 7) rfl)) rfl), Or.inl (xTs_in (tin_2 _ (List.mem_of_getElem? (i := 29) rfl)) rfl)⟩)
theorem tc_2_5 : Ptc 2 (78, 1, 29, 2, 2) := Or.inr (Or.inl (⟨rfl, by decide +kernel, yX2_leftBy, cX2_leftBy, 2, 1, rfl, rfl, ⟨by decide +kernel, by decide +kernel, by decide +kernel⟩, (xTs_in (tin_2 _ (List.mem_of_getElem? (i := 46) rfl)) rfl), (xTs_in (tin_2 _ (List.mem_of_getElem? (i := 26) rfl)) rfl), (xTs_in (tin_2 _ (List.mem_of_getElem? (i := 27) rfl)) rfl), (xTs_in (tin_1 _ (List.mem_of_getElem? (i := 2) rfl)) rfl), Or.inl ⟨1, rfl, by decide, _, _, rfl⟩⟩))
theorem tc_2_6 : Ptc 2 (81, 0, 3, 2, 0) := Or.inl (⟨rfl, by decide +kernel, rfl, yX0_lastedBy, cX0_lastedBy, 2, rfl, ⟨by decide +kernel, by decide +kernel, by decide +kernel⟩, (xTs_in (tin_2 _ (List.mem_of_getElem? (i := 37) rfl)) rfl), (xTs_in (tin_1 _ (List.mem_of_getElem? (i := 7) rfl)) rfl), Or.inl (xTs_in (tin_2 _ (List.mem_of_getElem? (i := 36) rfl)) rfl)⟩)
theorem tc_2_7 : Ptc 2 (84, 1, 33, 3, 2) := Or.inr (Or.inl (⟨rfl, by decide +kernel, yX2_couldCome, cX2_couldCome, 3, 2, rfl, rfl, ⟨by decide +kernel, by decide +kernel, by decide +kernel⟩, (xTs_in (tin_2 _ (List.mem_of_getElem? (i := 126) rfl)) rfl), (xTs_in (tin_2 _ (List.mem_of_getElem? (i := 88) rfl)) rfl), (xTs_in (tin_2 _ (List.mem_of_getElem? (i := 89) rfl)) rfl), (xTs_in (tin_1 _ (List.mem_of_getElem? (i := 2) rfl)) rfl), Or.inl ⟨1, rfl, by decide, _, _, rfl⟩⟩))
theorem tc_2_8 : Ptc 2 (88, 1, 30, 1, 2) := Or.inr (Or.inl (⟨rfl, by decide +kernel, yX2_leftByLatest, cX2_leftByLatest, 1, 0, rfl, rfl, ⟨by decide +kernel, by decide +kernel, by decide +kernel⟩, (xTs_in (tin_2 _ (List.mem_of_getElem? (i := 95) rfl)) rfl), (xTs_in (tin_2 _ (List.mem_of_getElem? (i := 43) rfl)) rfl), (xTs_in (tin_2 _ (List.mem_of_getElem? (i := 44) rfl)) rfl), (xTs_in (tin_1 _ (List.mem_of_getElem? (i := 2) rfl)) rfl), Or.inl ⟨1, rfl, by decide, _, _, rfl⟩⟩))
theorem tc_2_9 : Ptc 2 (92, 1, 28, 3, 2) := Or.inr (Or.inl (⟨rfl, by decide +kernel, yX2_noiseBy, cX2_noiseBy, 3, 2, rfl, rfl, ⟨by decide +kernel, by decide +kernel, by decide +kernel⟩, (xTs_in (tin_2 _ (List.mem_of_getElem? (i := 96) rfl)) rfl), (xTs_in (tin_2 _ (List.mem_of_getElem? (i := 48) rfl)) rfl), (xTs_in (tin_2 _ (List.mem_of_getElem? (i := 49) rfl)) rfl), (xTs_in (tin_1 _ (List.mem_of_getElem? (i := 2) rfl)) rfl), Or.inl ⟨1, rfl, by decide, _, _, rfl⟩⟩))
theorem tc_2_10 : Ptc 2 (95, 1, 31, 2, 2) := Or.inr (Or.inl (⟨rfl, by decide +kernel, yX2_lastedBy, cX2_lastedBy, 2, 1, rfl, rfl, ⟨by decide +kernel, by decide +kernel, by decide +kernel⟩, (xTs_in (tin_2 _ (List.mem_of_getElem? (i := 97) rfl)) rfl), (xTs_in (tin_2 _ (List.mem_of_getElem? (i := 33) rfl)) rfl), (xTs_in (tin_2 _ (List.mem_of_getElem? (i := 34) rfl)) rfl), (xTs_in (tin_1 _ (List.mem_of_getElem? (i := 2) rfl)) rfl), Or.inl ⟨1, rfl, by decide, _, _, rfl⟩⟩))
theorem tc_2_11 : Ptc 2 (98, 0, 219, 1, 0) := Or.inl (⟨rfl, by decide +kernel, rfl, yJ6_bitCount_0f7a4, cJ6_bitCount_0f7a4, 1, rfl, ⟨by decide +kernel, by decide +kernel, by decide +kernel⟩, (xTs_in (tin_2 _ (List.mem_of_getElem? (i := 183) rfl)) rfl), (xTs_in (tin_1 _ (List.mem_of_getElem? (i := 10) rfl)) rfl), Or.inl (xTs_in (tin_4 _ (List.mem_of_getElem? (i := 108) rfl)) rfl)⟩)
theorem tc_2 : ∀ e ∈ xCT.getD 2 [], Ptc 2 e := by
  show ∀ e ∈ [(3, 4, 0, 1, 0), (58, 3, 0, 5, 0), (64, 0, 116, 3, 0), (68, 0, 0, 3, 0), (74, 0, 2, 2, 0), (78, 1, 29, 2, 2), (81, 0, 3, 2, 0), (84, 1, 33, 3, 2), (88, 1, 30, 1, 2), (92, 1, 28, 3, 2), (95, 1, 31, 2, 2), (98, 0, 219, 1, 0)], Ptc 2 e
  exact List.forall_mem_cons.mpr ⟨tc_2_0, List.forall_mem_cons.mpr ⟨tc_2_1, List.forall_mem_cons.mpr ⟨tc_2_2, List.forall_mem_cons.mpr ⟨tc_2_3, List.forall_mem_cons.mpr ⟨tc_2_4, List.forall_mem_cons.mpr ⟨tc_2_5, List.forall_mem_cons.mpr ⟨tc_2_6, List.forall_mem_cons.mpr ⟨tc_2_7, List.forall_mem_cons.mpr ⟨tc_2_8, List.forall_mem_cons.mpr ⟨tc_2_9, List.forall_mem_cons.mpr ⟨tc_2_10, List.forall_mem_cons.mpr ⟨tc_2_11, fun _ h => absurd h List.not_mem_nil⟩⟩⟩⟩⟩⟩⟩⟩⟩⟩⟩⟩
theorem tc_3_0 : Ptc 3 (3, 4, 0, 1, 0) := Or.inr (Or.inr (Or.inr (Or.inr (Or.inl (⟨rfl, (xTs_in (tin_1 _ (List.mem_of_getElem? (i := 203) rfl)) rfl)⟩)))))
theorem tc_3_1 : Ptc 3 (21, 0, 116, 3, 0) := Or.inl (⟨rfl, by decide +kernel, rfl, yX5_isIn, cX5_isIn, 3, rfl, ⟨by decide +kernel, by decide +kernel, by decide +kernel⟩, (xTs_in (tin_2 _ (List.mem_of_getElem? (i := 6) rfl)) rfl), (xTs_in (tin_1 _ (List.mem_of_getElem? (i := 1) rfl)) rfl), Or.inr ⟨RX5, List.mem_of_getElem? (i := 5) rfl⟩⟩)
theorem tc_3_2 : Ptc 3 (25, 1, 43, 2, 3) := Or.inr (Or.inl (⟨rfl, by decide +kernel, yX3_isSheet, cX3_isSheet, 2, 1, rfl, rfl, ⟨by decide +kernel, by decide +kernel, by decide +kernel⟩, (xTs_in (tin_4 _ (List.mem_of_getElem? (i := 50) rfl)) rfl), (xTs_in (tin_4 _ (List.mem_of_getElem? (i := 34) rfl)) rfl), (xTs_in (tin_4 _ (List.mem_of_getElem? (i := 35) rfl)) rfl), (xTs_in (tin_1 _ (List.mem_of_getElem? (i := 5) rfl)) rfl), Or.inl ⟨2, rfl, by decide, _, _, rfl⟩⟩))
theorem tc_3_3 : Ptc 3 (29, 3, 0, 5, 0) := Or.inr (Or.inr (Or.inr (Or.inl (⟨rfl, (xTs_in (tin_4 _ (List.mem_of_getElem? (i := 67) rfl)) rfl)⟩))))
theorem tc_3 : ∀ e ∈ xCT.getD 3 [], Ptc 3 e := by
  show ∀ e ∈ [(3, 4, 0, 1, 0), (21, 0, 116, 3, 0), (25, 1, 43, 2, 3), (29, 3, 0, 5, 0)], Ptc 3 e
  exact List.forall_mem_cons.mpr ⟨tc_3_0, List.forall_mem_cons.mpr ⟨tc_3_1, List.forall_mem_cons.mpr ⟨tc_3_2, List.forall_mem_cons.mpr ⟨tc_3_3, fun _ h => absurd h List.not_mem_nil⟩⟩⟩⟩
theorem tc_4_0 : Ptc 4 (5, 4, 0, 1, 0) := Or.inr (Or.inr (Or.inr (Or.inr (Or.inl (⟨rfl, (xTs_in (tin_1 _ (List.mem_of_getElem? (i := 165) rfl)) rfl)⟩)))))
theorem tc_4_1 : Ptc 4 (31, 1, 60, 1, 4) := Or.inr (Or.inl (⟨rfl, by decide +kernel, yX4_cut, cX4_cut, 5, 0, rfl, rfl, ⟨by decide +kernel, by decide +kernel, by decide +kernel⟩, (xTs_in (tin_3 _ (List.mem_of_getElem? (i := 133) rfl)) rfl), (xTs_in (tin_3 _ (List.mem_of_getElem? (i := 135) rfl)) rfl), (xTs_in (tpr_1 _ (List.mem_of_getElem? (i := 9) rfl)) rfl), (xTs_in (tin_1 _ (List.mem_of_getElem? (i := 4) rfl)) rfl), Or.inl ⟨3, rfl, by decide, _, _, rfl⟩⟩))
theorem tc_4_2 : Ptc 4 (34, 1, 63, 2, 4) := Or.inr (Or.inl (⟨rfl, by decide +kernel, yX4_take, cX4_take, 2, 1, rfl, rfl, ⟨by decide +kernel, by decide +kernel, by decide +kernel⟩, (xTs_in (tin_3 _ (List.mem_of_getElem? (i := 224) rfl)) rfl), (xTs_in (tin_3 _ (List.mem_of_getElem? (i := 226) rfl)) rfl), (xTs_in (tpr_1 _ (List.mem_of_getElem? (i := 14) rfl)) rfl), (xTs_in (tin_1 _ (List.mem_of_getElem? (i := 4) rfl)) rfl), Or.inl ⟨3, rfl, by decide, _, _, rfl⟩⟩))
theorem tc_4_3 : Ptc 4 (38, 1, 54, 2, 4) := Or.inr (Or.inl (⟨rfl, by decide +kernel, yX4_readItem, cX4_readItem, 2, 1, rfl, rfl, ⟨by decide +kernel, by decide +kernel, by decide +kernel⟩, (xTs_in (tin_3 _ (List.mem_of_getElem? (i := 228) rfl)) rfl), (xTs_in (tin_3 _ (List.mem_of_getElem? (i := 230) rfl)) rfl), (xTs_in (tpr_1 _ (List.mem_of_getElem? (i := 15) rfl)) rfl), (xTs_in (tin_1 _ (List.mem_of_getElem? (i := 4) rfl)) rfl), Or.inl ⟨3, rfl, by decide, _, _, rfl⟩⟩))
theorem tc_4_4 : Ptc 4 (51, 0, 116, 3, 0) := Or.inl (⟨rfl, by decide +kernel, rfl, yX5_isIn, cX5_isIn, 3, rfl, ⟨by decide +kernel, by decide +kernel, by decide +kernel⟩, (xTs_in (tin_2 _ (List.mem_of_getElem? (i := 6) rfl)) rfl), (xTs_in (tin_1 _ (List.mem_of_getElem? (i := 1) rfl)) rfl), Or.inr ⟨RX5, List.mem_of_getElem? (i := 6) rfl⟩⟩)
theorem tc_4_5 : Ptc 4 (55, 1, 55, 2, 4) := Or.inr (Or.inl (⟨rfl, by decide +kernel, yX4_readBow, cX4_readBow, 3, 1, rfl, rfl, ⟨by decide +kernel, by decide +kernel, by decide +kernel⟩, (xTs_in (tin_3 _ (List.mem_of_getElem? (i := 233) rfl)) rfl), (xTs_in (tin_3 _ (List.mem_of_getElem? (i := 235) rfl)) rfl), (xTs_in (tpr_2 _ (List.mem_of_getElem? (i := 0) rfl)) rfl), (xTs_in (tin_1 _ (List.mem_of_getElem? (i := 4) rfl)) rfl), Or.inl ⟨3, rfl, by decide, _, _, rfl⟩⟩))
theorem tc_4_6 : Ptc 4 (58, 1, 57, 2, 4) := Or.inr (Or.inl (⟨rfl, by decide +kernel, yX4_readRule, cX4_readRule, 3, 1, rfl, rfl, ⟨by decide +kernel, by decide +kernel, by decide +kernel⟩, (xTs_in (tin_4 _ (List.mem_of_getElem? (i := 6) rfl)) rfl), (xTs_in (tin_4 _ (List.mem_of_getElem? (i := 8) rfl)) rfl), (xTs_in (tpr_2 _ (List.mem_of_getElem? (i := 3) rfl)) rfl), (xTs_in (tin_1 _ (List.mem_of_getElem? (i := 4) rfl)) rfl), Or.inl ⟨3, rfl, by decide, _, _, rfl⟩⟩))
theorem tc_4_7 : Ptc 4 (61, 1, 58, 2, 4) := Or.inr (Or.inl (⟨rfl, by decide +kernel, yX4_readContract, cX4_readContract, 3, 1, rfl, rfl, ⟨by decide +kernel, by decide +kernel, by decide +kernel⟩, (xTs_in (tin_4 _ (List.mem_of_getElem? (i := 11) rfl)) rfl), (xTs_in (tin_4 _ (List.mem_of_getElem? (i := 13) rfl)) rfl), (xTs_in (tpr_2 _ (List.mem_of_getElem? (i := 4) rfl)) rfl), (xTs_in (tin_1 _ (List.mem_of_getElem? (i := 4) rfl)) rfl), Or.inl ⟨3, rfl, by decide, _, _, rfl⟩⟩))
theorem tc_4_8 : Ptc 4 (69, 1, 27, 2, 2) := Or.inr (Or.inl (⟨rfl, by decide +kernel, yX2_addBow, cX2_addBow, 3, 1, rfl, rfl, ⟨by decide +kernel, by decide +kernel, by decide +kernel⟩, (xTs_in (tin_3 _ (List.mem_of_getElem? (i := 237) rfl)) rfl), (xTs_in (tin_2 _ (List.mem_of_getElem? (i := 14) rfl)) rfl), (xTs_in (tin_2 _ (List.mem_of_getElem? (i := 15) rfl)) rfl), (xTs_in (tin_1 _ (List.mem_of_getElem? (i := 2) rfl)) rfl), Or.inl ⟨1, rfl, by decide, _, _, rfl⟩⟩))
theorem tc_4_9 : Ptc 4 (76, 1, 56, 6, 4) := Or.inr (Or.inl (⟨rfl, by decide +kernel, yX4_readPart, cX4_readPart, 6, 5, rfl, rfl, ⟨by decide +kernel, by decide +kernel, by decide +kernel⟩, (xTs_in (tin_3 _ (List.mem_of_getElem? (i := 238) rfl)) rfl), (xTs_in (tin_4 _ (List.mem_of_getElem? (i := 0) rfl)) rfl), (xTs_in (tpr_2 _ (List.mem_of_getElem? (i := 1) rfl)) rfl), (xTs_in (tin_1 _ (List.mem_of_getElem? (i := 4) rfl)) rfl), Or.inl ⟨3, rfl, by decide, _, _, rfl⟩⟩))
theorem tc_4_10 : Ptc 4 (86, 1, 59, 3, 4) := Or.inr (Or.inl (⟨rfl, by decide +kernel, yX4_isNumber, cX4_isNumber, 3, 2, rfl, rfl, ⟨by decide +kernel, by decide +kernel, by decide +kernel⟩, (xTs_in (tin_4 _ (List.mem_of_getElem? (i := 2) rfl)) rfl), (xTs_in (tin_4 _ (List.mem_of_getElem? (i := 4) rfl)) rfl), (xTs_in (tpr_2 _ (List.mem_of_getElem? (i := 2) rfl)) rfl), (xTs_in (tin_1 _ (List.mem_of_getElem? (i := 4) rfl)) rfl), Or.inl ⟨3, rfl, by decide, _, _, rfl⟩⟩))
theorem tc_4_11 : Ptc 4 (99, 0, 62, 1, 0) := Or.inl (⟨rfl, by decide +kernel, rfl, yX4_sortOf, cX4_sortOf, 1, rfl, ⟨by decide +kernel, by decide +kernel, by decide +kernel⟩, (xTs_in (tin_3 _ (List.mem_of_getElem? (i := 138) rfl)) rfl), (xTs_in (tin_1 _ (List.mem_of_getElem? (i := 4) rfl)) rfl), Or.inl (xTs_in (tin_3 _ (List.mem_of_getElem? (i := 137) rfl)) rfl)⟩)
theorem tc_4_12 : Ptc 4 (102, 1, 61, 2, 4) := Or.inr (Or.inl (⟨rfl, by decide +kernel, yX4_valueOf, cX4_valueOf, 2, 1, rfl, rfl, ⟨by decide +kernel, by decide +kernel, by decide +kernel⟩, (xTs_in (tin_3 _ (List.mem_of_getElem? (i := 140) rfl)) rfl), (xTs_in (tin_3 _ (List.mem_of_getElem? (i := 142) rfl)) rfl), (xTs_in (tpr_1 _ (List.mem_of_getElem? (i := 10) rfl)) rfl), (xTs_in (tin_1 _ (List.mem_of_getElem? (i := 4) rfl)) rfl), Or.inl ⟨3, rfl, by decide, _, _, rfl⟩⟩))
theorem tc_4_13 : Ptc 4 (105, 1, 64, 3, 4) := Or.inr (Or.inl (⟨rfl, by decide +kernel, yX4_wordAt, cX4_wordAt, 4, 2, rfl, rfl, ⟨by decide +kernel, by decide +kernel, by decide +kernel⟩, (xTs_in (tin_3 _ (List.mem_of_getElem? (i := 144) rfl)) rfl), (xTs_in (tin_3 _ (List.mem_of_getElem? (i := 146) rfl)) rfl), (xTs_in (tpr_1 _ (List.mem_of_getElem? (i := 11) rfl)) rfl), (xTs_in (tin_1 _ (List.mem_of_getElem? (i := 4) rfl)) rfl), Or.inl ⟨3, rfl, by decide, _, _, rfl⟩⟩))
theorem tc_4_14 : Ptc 4 (109, 1, 66, 3, 4) := Or.inr (Or.inl (⟨rfl, by decide +kernel, yX4_numberAt, cX4_numberAt, 5, 2, rfl, rfl, ⟨by decide +kernel, by decide +kernel, by decide +kernel⟩, (xTs_in (tin_3 _ (List.mem_of_getElem? (i := 219) rfl)) rfl), (xTs_in (tin_3 _ (List.mem_of_getElem? (i := 221) rfl)) rfl), (xTs_in (tpr_1 _ (List.mem_of_getElem? (i := 13) rfl)) rfl), (xTs_in (tin_1 _ (List.mem_of_getElem? (i := 4) rfl)) rfl), Or.inl ⟨3, rfl, by decide, _, _, rfl⟩⟩))
theorem tc_4_15 : Ptc 4 (112, 6, 0, 2, 0) := Or.inr (Or.inr (Or.inr (Or.inr (Or.inr (Or.inr (Or.inl (⟨rfl, (xTs_in (tin_3 _ (List.mem_of_getElem? (i := 223) rfl)) rfl)⟩)))))))
theorem tc_4_16 : Ptc 4 (117, 0, 67, 1, 0) := Or.inl (⟨rfl, by decide +kernel, rfl, yX4_spelled, cX4_spelled, 1, rfl, ⟨by decide +kernel, by decide +kernel, by decide +kernel⟩, (xTs_in (tin_3 _ (List.mem_of_getElem? (i := 149) rfl)) rfl), (xTs_in (tin_1 _ (List.mem_of_getElem? (i := 4) rfl)) rfl), Or.inl (xTs_in (tin_3 _ (List.mem_of_getElem? (i := 148) rfl)) rfl)⟩)
theorem tc_4_17 : Ptc 4 (121, 1, 65, 4, 4) := Or.inr (Or.inl (⟨rfl, by decide +kernel, yX4_isWord, cX4_isWord, 5, 3, rfl, rfl, ⟨by decide +kernel, by decide +kernel, by decide +kernel⟩, (xTs_in (tin_3 _ (List.mem_of_getElem? (i := 167) rfl)) rfl), (xTs_in (tin_3 _ (List.mem_of_getElem? (i := 169) rfl)) rfl), (xTs_in (tpr_1 _ (List.mem_of_getElem? (i := 12) rfl)) rfl), (xTs_in (tin_1 _ (List.mem_of_getElem? (i := 4) rfl)) rfl), Or.inl ⟨3, rfl, by decide, _, _, rfl⟩⟩))
theorem tc_4_18 : Ptc 4 (125, 1, 220, 1, 101) := Or.inr (Or.inl (⟨rfl, by decide +kernel, yJ0_length_8abf5, cJ0_length_8abf5, 1, 0, rfl, rfl, ⟨by decide +kernel, by decide +kernel, by decide +kernel⟩, (xTs_in (tin_3 _ (List.mem_of_getElem? (i := 171) rfl)) rfl), (xTs_in (tin_3 _ (List.mem_of_getElem? (i := 172) rfl)) rfl), (xTs_in (tin_3 _ (List.mem_of_getElem? (i := 173) rfl)) rfl), (xTs_in (tin_1 _ (List.mem_of_getElem? (i := 11) rfl)) rfl), Or.inr ⟨rfl, rfl⟩⟩))
theorem tc_4_19 : Ptc 4 (131, 1, 221, 2, 101) := Or.inr (Or.inl (⟨rfl, by decide +kernel, yJ0_charAt_5068e, cJ0_charAt_5068e, 2, 1, rfl, rfl, ⟨by decide +kernel, by decide +kernel, by decide +kernel⟩, (xTs_in (tin_3 _ (List.mem_of_getElem? (i := 181) rfl)) rfl), (xTs_in (tin_3 _ (List.mem_of_getElem? (i := 182) rfl)) rfl), (xTs_in (tin_3 _ (List.mem_of_getElem? (i := 183) rfl)) rfl), (xTs_in (tin_1 _ (List.mem_of_getElem? (i := 11) rfl)) rfl), Or.inr ⟨rfl, rfl⟩⟩))
theorem tc_4 : ∀ e ∈ xCT.getD 4 [], Ptc 4 e := by
  show ∀ e ∈ [(5, 4, 0, 1, 0), (31, 1, 60, 1, 4), (34, 1, 63, 2, 4), (38, 1, 54, 2, 4), (51, 0, 116, 3, 0), (55, 1, 55, 2, 4), (58, 1, 57, 2, 4), (61, 1, 58, 2, 4), (69, 1, 27, 2, 2), (76, 1, 56, 6, 4), (86, 1, 59, 3, 4), (99, 0, 62, 1, 0), (102, 1, 61, 2, 4), (105, 1, 64, 3, 4), (109, 1, 66, 3, 4), (112, 6, 0, 2, 0), (117, 0, 67, 1, 0), (121, 1, 65, 4, 4), (125, 1, 220, 1, 101), (131, 1, 221, 2, 101)], Ptc 4 e
  exact List.forall_mem_cons.mpr ⟨tc_4_0, List.forall_mem_cons.mpr ⟨tc_4_1, List.forall_mem_cons.mpr ⟨tc_4_2, List.forall_mem_cons.mpr ⟨tc_4_3, List.forall_mem_cons.mpr ⟨tc_4_4, List.forall_mem_cons.mpr ⟨tc_4_5, List.forall_mem_cons.mpr ⟨tc_4_6, List.forall_mem_cons.mpr ⟨tc_4_7, List.forall_mem_cons.mpr ⟨tc_4_8, List.forall_mem_cons.mpr ⟨tc_4_9, List.forall_mem_cons.mpr ⟨tc_4_10, List.forall_mem_cons.mpr ⟨tc_4_11, List.forall_mem_cons.mpr ⟨tc_4_12, List.forall_mem_cons.mpr ⟨tc_4_13, List.forall_mem_cons.mpr ⟨tc_4_14, List.forall_mem_cons.mpr ⟨tc_4_15, List.forall_mem_cons.mpr ⟨tc_4_16, List.forall_mem_cons.mpr ⟨tc_4_17, List.forall_mem_cons.mpr ⟨tc_4_18, List.forall_mem_cons.mpr ⟨tc_4_19, fun _ h => absurd h List.not_mem_nil⟩⟩⟩⟩⟩⟩⟩⟩⟩⟩⟩⟩⟩⟩⟩⟩⟩⟩⟩⟩
theorem tc_5_0 : Ptc 5 (3, 4, 0, 1, 0) := Or.inr (Or.inr (Or.inr (Or.inr (Or.inl (⟨rfl, (xTs_in (tin_1 _ (List.mem_of_getElem? (i := 20) rfl)) rfl)⟩)))))
theorem tc_5_1 : Ptc 5 (15, 2, 228, 1, 2) := Or.inr (Or.inr (Or.inl (⟨rfl, by decide +kernel, ⟨xm_228, rfl, rfl⟩, yX2_init, cX2_init, 1, 0, rfl, rfl, ⟨by decide +kernel, by decide +kernel, by decide +kernel⟩, rfl, (xTs_in (tin_1 _ (List.mem_of_getElem? (i := 26) rfl)) rfl), (xTs_in (tin_1 _ (List.mem_of_getElem? (i := 2) rfl)) rfl), Or.inr ⟨RX5, List.mem_of_getElem? (i := 0) rfl⟩, by decide, by decide⟩)))
theorem tc_5_2 : Ptc 5 (28, 2, 227, 1, 1) := Or.inr (Or.inr (Or.inl (⟨rfl, by decide +kernel, ⟨xm_227, rfl, rfl⟩, yX1_init, cX1_init, 1, 0, rfl, rfl, ⟨by decide +kernel, by decide +kernel, by decide +kernel⟩, rfl, (xTs_in (tin_1 _ (List.mem_of_getElem? (i := 104) rfl)) rfl), (xTs_in (tin_1 _ (List.mem_of_getElem? (i := 3) rfl)) rfl), Or.inr ⟨RX5, List.mem_of_getElem? (i := 1) rfl⟩, by decide, by decide⟩)))
theorem tc_5_3 : Ptc 5 (35, 2, 230, 1, 4) := Or.inr (Or.inr (Or.inl (⟨rfl, by decide +kernel, ⟨xm_230, rfl, rfl⟩, yX4_init, cX4_init, 1, 0, rfl, rfl, ⟨by decide +kernel, by decide +kernel, by decide +kernel⟩, rfl, (xTs_in (tin_1 _ (List.mem_of_getElem? (i := 163) rfl)) rfl), (xTs_in (tin_1 _ (List.mem_of_getElem? (i := 4) rfl)) rfl), Or.inr ⟨RX5, List.mem_of_getElem? (i := 2) rfl⟩, by decide, by decide⟩)))
theorem tc_5_4 : Ptc 5 (42, 2, 229, 1, 3) := Or.inr (Or.inr (Or.inl (⟨rfl, by decide +kernel, ⟨xm_229, rfl, rfl⟩, yX3_init, cX3_init, 1, 0, rfl, rfl, ⟨by decide +kernel, by decide +kernel, by decide +kernel⟩, rfl, (xTs_in (tin_1 _ (List.mem_of_getElem? (i := 201) rfl)) rfl), (xTs_in (tin_1 _ (List.mem_of_getElem? (i := 5) rfl)) rfl), Or.inr ⟨RX5, List.mem_of_getElem? (i := 3) rfl⟩, by decide, by decide⟩)))
theorem tc_5_5 : Ptc 5 (51, 0, 116, 3, 0) := Or.inl (⟨rfl, by decide +kernel, rfl, yX5_isIn, cX5_isIn, 3, rfl, ⟨by decide +kernel, by decide +kernel, by decide +kernel⟩, (xTs_in (tin_2 _ (List.mem_of_getElem? (i := 6) rfl)) rfl), (xTs_in (tin_1 _ (List.mem_of_getElem? (i := 1) rfl)) rfl), Or.inl (xTs_in (tin_2 _ (List.mem_of_getElem? (i := 5) rfl)) rfl)⟩)
theorem tc_5_6 : Ptc 5 (55, 1, 115, 2, 5) := Or.inr (Or.inl (⟨rfl, by decide +kernel, yX5_finding, cX5_finding, 2, 1, rfl, rfl, ⟨by decide +kernel, by decide +kernel, by decide +kernel⟩, (xTs_in (tin_2 _ (List.mem_of_getElem? (i := 8) rfl)) rfl), (xTs_in (tin_2 _ (List.mem_of_getElem? (i := 10) rfl)) rfl), (xTs_in (tpr_1 _ (List.mem_of_getElem? (i := 0) rfl)) rfl), (xTs_in (tin_1 _ (List.mem_of_getElem? (i := 1) rfl)) rfl), Or.inl ⟨4, rfl, by decide, _, _, rfl⟩⟩))
theorem tc_5_7 : Ptc 5 (63, 1, 27, 2, 2) := Or.inr (Or.inl (⟨rfl, by decide +kernel, yX2_addBow, cX2_addBow, 3, 1, rfl, rfl, ⟨by decide +kernel, by decide +kernel, by decide +kernel⟩, (xTs_in (tin_2 _ (List.mem_of_getElem? (i := 13) rfl)) rfl), (xTs_in (tin_2 _ (List.mem_of_getElem? (i := 14) rfl)) rfl), (xTs_in (tin_2 _ (List.mem_of_getElem? (i := 15) rfl)) rfl), (xTs_in (tin_1 _ (List.mem_of_getElem? (i := 2) rfl)) rfl), Or.inl ⟨1, rfl, by decide, _, _, rfl⟩⟩))
theorem tc_5_8 : Ptc 5 (66, 1, 25, 2, 2) := Or.inr (Or.inl (⟨rfl, by decide +kernel, yX2_isBow, cX2_isBow, 2, 1, rfl, rfl, ⟨by decide +kernel, by decide +kernel, by decide +kernel⟩, (xTs_in (tin_2 _ (List.mem_of_getElem? (i := 21) rfl)) rfl), (xTs_in (tin_2 _ (List.mem_of_getElem? (i := 22) rfl)) rfl), (xTs_in (tin_2 _ (List.mem_of_getElem? (i := 23) rfl)) rfl), (xTs_in (tin_1 _ (List.mem_of_getElem? (i := 2) rfl)) rfl), Or.inl ⟨1, rfl, by decide, _, _, rfl⟩⟩))
theorem tc_5_9 : Ptc 5 (82, 1, 29, 2, 2) := Or.inr (Or.inl (⟨rfl, by decide +kernel, yX2_leftBy, cX2_leftBy, 2, 1, rfl, rfl, ⟨by decide +kernel, by decide +kernel, by decide +kernel⟩, (xTs_in (tin_2 _ (List.mem_of_getElem? (i := 25) rfl)) rfl), (xTs_in (tin_2 _ (List.mem_of_getElem? (i := 26) rfl)) rfl), (xTs_in (tin_2 _ (List.mem_of_getElem? (i := 27) rfl)) rfl), (xTs_in (tin_1 _ (List.mem_of_getElem? (i := 2) rfl)) rfl), Or.inl ⟨1, rfl, by decide, _, _, rfl⟩⟩))
theorem tc_5_10 : Ptc 5 (85, 1, 31, 2, 2) := Or.inr (Or.inl (⟨rfl, by decide +kernel, yX2_lastedBy, cX2_lastedBy, 2, 1, rfl, rfl, ⟨by decide +kernel, by decide +kernel, by decide +kernel⟩, (xTs_in (tin_2 _ (List.mem_of_getElem? (i := 32) rfl)) rfl), (xTs_in (tin_2 _ (List.mem_of_getElem? (i := 33) rfl)) rfl), (xTs_in (tin_2 _ (List.mem_of_getElem? (i := 34) rfl)) rfl), (xTs_in (tin_1 _ (List.mem_of_getElem? (i := 2) rfl)) rfl), Or.inl ⟨1, rfl, by decide, _, _, rfl⟩⟩))
theorem tc_5_11 : Ptc 5 (88, 1, 30, 1, 2) := Or.inr (Or.inl (⟨rfl, by decide +kernel, yX2_leftByLatest, cX2_leftByLatest, 1, 0, rfl, rfl, ⟨by decide +kernel, by decide +kernel, by decide +kernel⟩, (xTs_in (tin_2 _ (List.mem_of_getElem? (i := 42) rfl)) rfl), (xTs_in (tin_2 _ (List.mem_of_getElem? (i := 43) rfl)) rfl), (xTs_in (tin_2 _ (List.mem_of_getElem? (i := 44) rfl)) rfl), (xTs_in (tin_1 _ (List.mem_of_getElem? (i := 2) rfl)) rfl), Or.inl ⟨1, rfl, by decide, _, _, rfl⟩⟩))
theorem tc_5_12 : Ptc 5 (92, 1, 28, 3, 2) := Or.inr (Or.inl (⟨rfl, by decide +kernel, yX2_noiseBy, cX2_noiseBy, 3, 2, rfl, rfl, ⟨by decide +kernel, by decide +kernel, by decide +kernel⟩, (xTs_in (tin_2 _ (List.mem_of_getElem? (i := 47) rfl)) rfl), (xTs_in (tin_2 _ (List.mem_of_getElem? (i := 48) rfl)) rfl), (xTs_in (tin_2 _ (List.mem_of_getElem? (i := 49) rfl)) rfl), (xTs_in (tin_1 _ (List.mem_of_getElem? (i := 2) rfl)) rfl), Or.inl ⟨1, rfl, by decide, _, _, rfl⟩⟩))
theorem tc_5_13 : Ptc 5 (96, 0, 117, 3, 0) := Or.inl (⟨rfl, by decide +kernel, rfl, yX5_put, cX5_put, 4, rfl, ⟨by decide +kernel, by decide +kernel, by decide +kernel⟩, (xTs_in (tin_2 _ (List.mem_of_getElem? (i := 62) rfl)) rfl), (xTs_in (tin_1 _ (List.mem_of_getElem? (i := 1) rfl)) rfl), Or.inl (xTs_in (tin_2 _ (List.mem_of_getElem? (i := 61) rfl)) rfl)⟩)
theorem tc_5_14 : Ptc 5 (100, 1, 26, 3, 2) := Or.inr (Or.inl (⟨rfl, by decide +kernel, yX2_isSetWithout, cX2_isSetWithout, 3, 2, rfl, rfl, ⟨by decide +kernel, by decide +kernel, by decide +kernel⟩, (xTs_in (tin_2 _ (List.mem_of_getElem? (i := 64) rfl)) rfl), (xTs_in (tin_2 _ (List.mem_of_getElem? (i := 65) rfl)) rfl), (xTs_in (tin_2 _ (List.mem_of_getElem? (i := 66) rfl)) rfl), (xTs_in (tin_1 _ (List.mem_of_getElem? (i := 2) rfl)) rfl), Or.inl ⟨1, rfl, by decide, _, _, rfl⟩⟩))
theorem tc_5_15 : Ptc 5 (113, 1, 33, 3, 2) := Or.inr (Or.inl (⟨rfl, by decide +kernel, yX2_couldCome, cX2_couldCome, 3, 2, rfl, rfl, ⟨by decide +kernel, by decide +kernel, by decide +kernel⟩, (xTs_in (tin_2 _ (List.mem_of_getElem? (i := 87) rfl)) rfl), (xTs_in (tin_2 _ (List.mem_of_getElem? (i := 88) rfl)) rfl), (xTs_in (tin_2 _ (List.mem_of_getElem? (i := 89) rfl)) rfl), (xTs_in (tin_1 _ (List.mem_of_getElem? (i := 2) rfl)) rfl), Or.inl ⟨1, rfl, by decide, _, _, rfl⟩⟩))
theorem tc_5_16 : Ptc 5 (116, 1, 35, 2, 2) := Or.inr (Or.inl (⟨rfl, by decide +kernel, yX2_enter, cX2_enter, 4, 1, rfl, rfl, ⟨by decide +kernel, by decide +kernel, by decide +kernel⟩, (xTs_in (tin_2 _ (List.mem_of_getElem? (i := 91) rfl)) rfl), (xTs_in (tin_2 _ (List.mem_of_getElem? (i := 92) rfl)) rfl), (xTs_in (tin_2 _ (List.mem_of_getElem? (i := 93) rfl)) rfl), (xTs_in (tin_1 _ (List.mem_of_getElem? (i := 2) rfl)) rfl), Or.inl ⟨1, rfl, by decide, _, _, rfl⟩⟩))
theorem tc_5_17 : Ptc 5 (122, 1, 36, 1, 2) := Or.inr (Or.inl (⟨rfl, by decide +kernel, yX2_leave, cX2_leave, 2, 0, rfl, rfl, ⟨by decide +kernel, by decide +kernel, by decide +kernel⟩, (xTs_in (tin_2 _ (List.mem_of_getElem? (i := 102) rfl)) rfl), (xTs_in (tin_2 _ (List.mem_of_getElem? (i := 103) rfl)) rfl), (xTs_in (tin_2 _ (List.mem_of_getElem? (i := 104) rfl)) rfl), (xTs_in (tin_1 _ (List.mem_of_getElem? (i := 2) rfl)) rfl), Or.inl ⟨1, rfl, by decide, _, _, rfl⟩⟩))
theorem tc_5_18 : Ptc 5 (125, 1, 37, 1, 2) := Or.inr (Or.inl (⟨rfl, by decide +kernel, yX2_empty, cX2_empty, 1, 0, rfl, rfl, ⟨by decide +kernel, by decide +kernel, by decide +kernel⟩, (xTs_in (tin_2 _ (List.mem_of_getElem? (i := 110) rfl)) rfl), (xTs_in (tin_2 _ (List.mem_of_getElem? (i := 111) rfl)) rfl), (xTs_in (tin_2 _ (List.mem_of_getElem? (i := 112) rfl)) rfl), (xTs_in (tin_1 _ (List.mem_of_getElem? (i := 2) rfl)) rfl), Or.inl ⟨1, rfl, by decide, _, _, rfl⟩⟩))
theorem tc_5_19 : Ptc 5 (137, 1, 34, 1, 2) := Or.inr (Or.inl (⟨rfl, by decide +kernel, yX2_comers, cX2_comers, 3, 0, rfl, rfl, ⟨by decide +kernel, by decide +kernel, by decide +kernel⟩, (xTs_in (tin_2 _ (List.mem_of_getElem? (i := 122) rfl)) rfl), (xTs_in (tin_2 _ (List.mem_of_getElem? (i := 123) rfl)) rfl), (xTs_in (tin_2 _ (List.mem_of_getElem? (i := 124) rfl)) rfl), (xTs_in (tin_1 _ (List.mem_of_getElem? (i := 2) rfl)) rfl), Or.inl ⟨1, rfl, by decide, _, _, rfl⟩⟩))
theorem tc_5_20 : Ptc 5 (140, 1, 38, 1, 2) := Or.inr (Or.inl (⟨rfl, by decide +kernel, yX2_falls, cX2_falls, 4, 0, rfl, rfl, ⟨by decide +kernel, by decide +kernel, by decide +kernel⟩, (xTs_in (tin_2 _ (List.mem_of_getElem? (i := 127) rfl)) rfl), (xTs_in (tin_2 _ (List.mem_of_getElem? (i := 128) rfl)) rfl), (xTs_in (tin_2 _ (List.mem_of_getElem? (i := 129) rfl)) rfl), (xTs_in (tin_1 _ (List.mem_of_getElem? (i := 2) rfl)) rfl), Or.inl ⟨1, rfl, by decide, _, _, rfl⟩⟩))
theorem tc_5_21 : Ptc 5 (143, 1, 5, 2, 1) := Or.inr (Or.inl (⟨rfl, by decide +kernel, yX1_startFrom, cX1_startFrom, 2, 1, rfl, rfl, ⟨by decide +kernel, by decide +kernel, by decide +kernel⟩, (xTs_in (tin_2 _ (List.mem_of_getElem? (i := 135) rfl)) rfl), (xTs_in (tin_2 _ (List.mem_of_getElem? (i := 136) rfl)) rfl), (xTs_in (tin_2 _ (List.mem_of_getElem? (i := 137) rfl)) rfl), (xTs_in (tin_1 _ (List.mem_of_getElem? (i := 3) rfl)) rfl), Or.inl ⟨0, rfl, by decide, _, _, rfl⟩⟩))
theorem tc_5_22 : Ptc 5 (147, 1, 8, 1, 1) := Or.inr (Or.inl (⟨rfl, by decide +kernel, yX1_haveWay, cX1_haveWay, 4, 0, rfl, rfl, ⟨by decide +kernel, by decide +kernel, by decide +kernel⟩, (xTs_in (tin_2 _ (List.mem_of_getElem? (i := 142) rfl)) rfl), (xTs_in (tin_2 _ (List.mem_of_getElem? (i := 143) rfl)) rfl), (xTs_in (tin_2 _ (List.mem_of_getElem? (i := 144) rfl)) rfl), (xTs_in (tin_1 _ (List.mem_of_getElem? (i := 3) rfl)) rfl), Or.inl ⟨0, rfl, by decide, _, _, rfl⟩⟩))
theorem tc_5_23 : Ptc 5 (151, 1, 11, 2, 1) := Or.inr (Or.inl (⟨rfl, by decide +kernel, yX1_weigh, cX1_weigh, 4, 1, rfl, rfl, ⟨by decide +kernel, by decide +kernel, by decide +kernel⟩, (xTs_in (tin_2 _ (List.mem_of_getElem? (i := 150) rfl)) rfl), (xTs_in (tin_2 _ (List.mem_of_getElem? (i := 151) rfl)) rfl), (xTs_in (tin_2 _ (List.mem_of_getElem? (i := 152) rfl)) rfl), (xTs_in (tin_1 _ (List.mem_of_getElem? (i := 3) rfl)) rfl), Or.inl ⟨0, rfl, by decide, _, _, rfl⟩⟩))
theorem tc_5_24 : Ptc 5 (154, 1, 6, 1, 1) := Or.inr (Or.inl (⟨rfl, by decide +kernel, yX1_rest, cX1_rest, 1, 0, rfl, rfl, ⟨by decide +kernel, by decide +kernel, by decide +kernel⟩, (xTs_in (tin_2 _ (List.mem_of_getElem? (i := 178) rfl)) rfl), (xTs_in (tin_2 _ (List.mem_of_getElem? (i := 179) rfl)) rfl), (xTs_in (tin_2 _ (List.mem_of_getElem? (i := 180) rfl)) rfl), (xTs_in (tin_1 _ (List.mem_of_getElem? (i := 3) rfl)) rfl), Or.inl ⟨0, rfl, by decide, _, _, rfl⟩⟩))
theorem tc_5_25 : Ptc 5 (157, 1, 14, 2, 1) := Or.inr (Or.inl (⟨rfl, by decide +kernel, yX1_findFirst, cX1_findFirst, 6, 1, rfl, rfl, ⟨by decide +kernel, by decide +kernel, by decide +kernel⟩, (xTs_in (tin_2 _ (List.mem_of_getElem? (i := 188) rfl)) rfl), (xTs_in (tin_2 _ (List.mem_of_getElem? (i := 189) rfl)) rfl), (xTs_in (tin_2 _ (List.mem_of_getElem? (i := 190) rfl)) rfl), (xTs_in (tin_1 _ (List.mem_of_getElem? (i := 3) rfl)) rfl), Or.inl ⟨0, rfl, by decide, _, _, rfl⟩⟩))
theorem tc_5_26 : Ptc 5 (164, 1, 16, 1, 1) := Or.inr (Or.inl (⟨rfl, by decide +kernel, yX1_countWays, cX1_countWays, 4, 0, rfl, rfl, ⟨by decide +kernel, by decide +kernel, by decide +kernel⟩, (xTs_in (tin_2 _ (List.mem_of_getElem? (i := 202) rfl)) rfl), (xTs_in (tin_2 _ (List.mem_of_getElem? (i := 203) rfl)) rfl), (xTs_in (tin_2 _ (List.mem_of_getElem? (i := 204) rfl)) rfl), (xTs_in (tin_1 _ (List.mem_of_getElem? (i := 3) rfl)) rfl), Or.inl ⟨0, rfl, by decide, _, _, rfl⟩⟩))
theorem tc_5_27 : Ptc 5 (167, 1, 17, 1, 1) := Or.inr (Or.inl (⟨rfl, by decide +kernel, yX1_lastOnes, cX1_lastOnes, 3, 0, rfl, rfl, ⟨by decide +kernel, by decide +kernel, by decide +kernel⟩, (xTs_in (tin_2 _ (List.mem_of_getElem? (i := 210) rfl)) rfl), (xTs_in (tin_2 _ (List.mem_of_getElem? (i := 211) rfl)) rfl), (xTs_in (tin_2 _ (List.mem_of_getElem? (i := 212) rfl)) rfl), (xTs_in (tin_1 _ (List.mem_of_getElem? (i := 3) rfl)) rfl), Or.inl ⟨0, rfl, by decide, _, _, rfl⟩⟩))
theorem tc_5_28 : Ptc 5 (170, 1, 32, 2, 2) := Or.inr (Or.inl (⟨rfl, by decide +kernel, yX2_hasCome, cX2_hasCome, 2, 1, rfl, rfl, ⟨by decide +kernel, by decide +kernel, by decide +kernel⟩, (xTs_in (tin_2 _ (List.mem_of_getElem? (i := 218) rfl)) rfl), (xTs_in (tin_2 _ (List.mem_of_getElem? (i := 219) rfl)) rfl), (xTs_in (tin_2 _ (List.mem_of_getElem? (i := 220) rfl)) rfl), (xTs_in (tin_1 _ (List.mem_of_getElem? (i := 2) rfl)) rfl), Or.inl ⟨1, rfl, by decide, _, _, rfl⟩⟩))
theorem tc_5_29 : Ptc 5 (173, 1, 19, 2, 1) := Or.inr (Or.inl (⟨rfl, by decide +kernel, yX1_earliest, cX1_earliest, 2, 1, rfl, rfl, ⟨by decide +kernel, by decide +kernel, by decide +kernel⟩, (xTs_in (tin_2 _ (List.mem_of_getElem? (i := 222) rfl)) rfl), (xTs_in (tin_2 _ (List.mem_of_getElem? (i := 223) rfl)) rfl), (xTs_in (tin_2 _ (List.mem_of_getElem? (i := 224) rfl)) rfl), (xTs_in (tin_1 _ (List.mem_of_getElem? (i := 3) rfl)) rfl), Or.inl ⟨0, rfl, by decide, _, _, rfl⟩⟩))
theorem tc_5_30 : Ptc 5 (176, 1, 20, 2, 1) := Or.inr (Or.inl (⟨rfl, by decide +kernel, yX1_latest, cX1_latest, 5, 1, rfl, rfl, ⟨by decide +kernel, by decide +kernel, by decide +kernel⟩, (xTs_in (tin_2 _ (List.mem_of_getElem? (i := 230) rfl)) rfl), (xTs_in (tin_2 _ (List.mem_of_getElem? (i := 231) rfl)) rfl), (xTs_in (tin_2 _ (List.mem_of_getElem? (i := 232) rfl)) rfl), (xTs_in (tin_1 _ (List.mem_of_getElem? (i := 3) rfl)) rfl), Or.inl ⟨0, rfl, by decide, _, _, rfl⟩⟩))
theorem tc_5_31 : Ptc 5 (182, 1, 18, 3, 1) := Or.inr (Or.inl (⟨rfl, by decide +kernel, yX1_allAhead, cX1_allAhead, 6, 2, rfl, rfl, ⟨by decide +kernel, by decide +kernel, by decide +kernel⟩, (xTs_in (tin_2 _ (List.mem_of_getElem? (i := 238) rfl)) rfl), (xTs_in (tin_2 _ (List.mem_of_getElem? (i := 227) rfl)) rfl), (xTs_in (tin_2 _ (List.mem_of_getElem? (i := 228) rfl)) rfl), (xTs_in (tin_1 _ (List.mem_of_getElem? (i := 3) rfl)) rfl), Or.inl ⟨0, rfl, by decide, _, _, rfl⟩⟩))
theorem tc_5_32 : Ptc 5 (185, 1, 21, 1, 1) := Or.inr (Or.inl (⟨rfl, by decide +kernel, yX1_fewestBroken, cX1_fewestBroken, 5, 0, rfl, rfl, ⟨by decide +kernel, by decide +kernel, by decide +kernel⟩, (xTs_in (tin_3 _ (List.mem_of_getElem? (i := 7) rfl)) rfl), (xTs_in (tin_3 _ (List.mem_of_getElem? (i := 8) rfl)) rfl), (xTs_in (tin_3 _ (List.mem_of_getElem? (i := 9) rfl)) rfl), (xTs_in (tin_1 _ (List.mem_of_getElem? (i := 3) rfl)) rfl), Or.inl ⟨0, rfl, by decide, _, _, rfl⟩⟩))
theorem tc_5_33 : Ptc 5 (188, 1, 22, 2, 1) := Or.inr (Or.inl (⟨rfl, by decide +kernel, yX1_bestKind, cX1_bestKind, 6, 1, rfl, rfl, ⟨by decide +kernel, by decide +kernel, by decide +kernel⟩, (xTs_in (tin_3 _ (List.mem_of_getElem? (i := 23) rfl)) rfl), (xTs_in (tin_3 _ (List.mem_of_getElem? (i := 24) rfl)) rfl), (xTs_in (tin_3 _ (List.mem_of_getElem? (i := 25) rfl)) rfl), (xTs_in (tin_1 _ (List.mem_of_getElem? (i := 3) rfl)) rfl), Or.inl ⟨0, rfl, by decide, _, _, rfl⟩⟩))
theorem tc_5_34 : Ptc 5 (191, 1, 23, 1, 1) := Or.inr (Or.inl (⟨rfl, by decide +kernel, yX1_freeOne, cX1_freeOne, 6, 0, rfl, rfl, ⟨by decide +kernel, by decide +kernel, by decide +kernel⟩, (xTs_in (tin_3 _ (List.mem_of_getElem? (i := 31) rfl)) rfl), (xTs_in (tin_3 _ (List.mem_of_getElem? (i := 32) rfl)) rfl), (xTs_in (tin_3 _ (List.mem_of_getElem? (i := 33) rfl)) rfl), (xTs_in (tin_1 _ (List.mem_of_getElem? (i := 3) rfl)) rfl), Or.inl ⟨0, rfl, by decide, _, _, rfl⟩⟩))
theorem tc_5_35 : Ptc 5 (200, 0, 0, 3, 0) := Or.inl (⟨rfl, by decide +kernel, rfl, yX0_noiseOf, cX0_noiseOf, 3, rfl, ⟨by decide +kernel, by decide +kernel, by decide +kernel⟩, (xTs_in (tin_2 _ (List.mem_of_getElem? (i := 52) rfl)) rfl), (xTs_in (tin_1 _ (List.mem_of_getElem? (i := 7) rfl)) rfl), Or.inl (xTs_in (tin_3 _ (List.mem_of_getElem? (i := 48) rfl)) rfl)⟩)
theorem tc_5_36 : Ptc 5 (206, 1, 121, 2, 5) := Or.inr (Or.inl (⟨rfl, by decide +kernel, yX5_worth, cX5_worth, 12, 1, rfl, rfl, ⟨by decide +kernel, by decide +kernel, by decide +kernel⟩, (xTs_in (tin_3 _ (List.mem_of_getElem? (i := 57) rfl)) rfl), (xTs_in (tin_3 _ (List.mem_of_getElem? (i := 59) rfl)) rfl), (xTs_in (tpr_1 _ (List.mem_of_getElem? (i := 7) rfl)) rfl), (xTs_in (tin_1 _ (List.mem_of_getElem? (i := 1) rfl)) rfl), Or.inl ⟨4, rfl, by decide, _, _, rfl⟩⟩))
theorem tc_5_37 : Ptc 5 (210, 0, 120, 1, 0) := Or.inl (⟨rfl, by decide +kernel, rfl, yX5_partsFrom, cX5_partsFrom, 4, rfl, ⟨by decide +kernel, by decide +kernel, by decide +kernel⟩, (xTs_in (tin_3 _ (List.mem_of_getElem? (i := 71) rfl)) rfl), (xTs_in (tin_1 _ (List.mem_of_getElem? (i := 1) rfl)) rfl), Or.inl (xTs_in (tin_3 _ (List.mem_of_getElem? (i := 70) rfl)) rfl)⟩)
theorem tc_5_38 : Ptc 5 (217, 1, 39, 1, 2) := Or.inr (Or.inl (⟨rfl, by decide +kernel, yX2_draw, cX2_draw, 1, 0, rfl, rfl, ⟨by decide +kernel, by decide +kernel, by decide +kernel⟩, (xTs_in (tin_3 _ (List.mem_of_getElem? (i := 83) rfl)) rfl), (xTs_in (tin_3 _ (List.mem_of_getElem? (i := 84) rfl)) rfl), (xTs_in (tin_3 _ (List.mem_of_getElem? (i := 85) rfl)) rfl), (xTs_in (tin_1 _ (List.mem_of_getElem? (i := 2) rfl)) rfl), Or.inl ⟨1, rfl, by decide, _, _, rfl⟩⟩))
theorem tc_5_39 : Ptc 5 (220, 1, 119, 2, 5) := Or.inr (Or.inl (⟨rfl, by decide +kernel, yX5_gainAt, cX5_gainAt, 2, 1, rfl, rfl, ⟨by decide +kernel, by decide +kernel, by decide +kernel⟩, (xTs_in (tin_3 _ (List.mem_of_getElem? (i := 62) rfl)) rfl), (xTs_in (tin_3 _ (List.mem_of_getElem? (i := 64) rfl)) rfl), (xTs_in (tpr_1 _ (List.mem_of_getElem? (i := 8) rfl)) rfl), (xTs_in (tin_1 _ (List.mem_of_getElem? (i := 1) rfl)) rfl), Or.inl ⟨4, rfl, by decide, _, _, rfl⟩⟩))
theorem tc_5_40 : Ptc 5 (223, 0, 219, 1, 0) := Or.inl (⟨rfl, by decide +kernel, rfl, yJ6_bitCount_0f7a4, cJ6_bitCount_0f7a4, 1, rfl, ⟨by decide +kernel, by decide +kernel, by decide +kernel⟩, (xTs_in (tin_2 _ (List.mem_of_getElem? (i := 183) rfl)) rfl), (xTs_in (tin_1 _ (List.mem_of_getElem? (i := 10) rfl)) rfl), Or.inl (xTs_in (tin_3 _ (List.mem_of_getElem? (i := 92) rfl)) rfl)⟩)
theorem tc_5_41 : Ptc 5 (228, 0, 118, 2, 0) := Or.inl (⟨rfl, by decide +kernel, rfl, yX5_memberOf, cX5_memberOf, 4, rfl, ⟨by decide +kernel, by decide +kernel, by decide +kernel⟩, (xTs_in (tin_3 _ (List.mem_of_getElem? (i := 94) rfl)) rfl), (xTs_in (tin_1 _ (List.mem_of_getElem? (i := 1) rfl)) rfl), Or.inl (xTs_in (tin_3 _ (List.mem_of_getElem? (i := 93) rfl)) rfl)⟩)
theorem tc_5_42 : Ptc 5 (234, 1, 50, 2, 4) := Or.inr (Or.inl (⟨rfl, by decide +kernel, yX4_hasRoom, cX4_hasRoom, 2, 1, rfl, rfl, ⟨by decide +kernel, by decide +kernel, by decide +kernel⟩, (xTs_in (tin_3 _ (List.mem_of_getElem? (i := 104) rfl)) rfl), (xTs_in (tin_3 _ (List.mem_of_getElem? (i := 105) rfl)) rfl), (xTs_in (tin_3 _ (List.mem_of_getElem? (i := 106) rfl)) rfl), (xTs_in (tin_1 _ (List.mem_of_getElem? (i := 4) rfl)) rfl), Or.inl ⟨3, rfl, by decide, _, _, rfl⟩⟩))
theorem tc_5_43 : Ptc 5 (237, 1, 51, 3, 4) := Or.inr (Or.inl (⟨rfl, by decide +kernel, yX4_append, cX4_append, 4, 2, rfl, rfl, ⟨by decide +kernel, by decide +kernel, by decide +kernel⟩, (xTs_in (tin_3 _ (List.mem_of_getElem? (i := 108) rfl)) rfl), (xTs_in (tin_3 _ (List.mem_of_getElem? (i := 109) rfl)) rfl), (xTs_in (tin_3 _ (List.mem_of_getElem? (i := 110) rfl)) rfl), (xTs_in (tin_1 _ (List.mem_of_getElem? (i := 4) rfl)) rfl), Or.inl ⟨3, rfl, by decide, _, _, rfl⟩⟩))
theorem tc_5_44 : Ptc 5 (240, 1, 52, 1, 4) := Or.inr (Or.inl (⟨rfl, by decide +kernel, yX4_empty, cX4_empty, 2, 0, rfl, rfl, ⟨by decide +kernel, by decide +kernel, by decide +kernel⟩, (xTs_in (tin_3 _ (List.mem_of_getElem? (i := 116) rfl)) rfl), (xTs_in (tin_3 _ (List.mem_of_getElem? (i := 117) rfl)) rfl), (xTs_in (tin_3 _ (List.mem_of_getElem? (i := 118) rfl)) rfl), (xTs_in (tin_1 _ (List.mem_of_getElem? (i := 4) rfl)) rfl), Or.inl ⟨3, rfl, by decide, _, _, rfl⟩⟩))
theorem tc_5_45 : Ptc 5 (242, 1, 24, 2, 2) := Or.inr (Or.inl (⟨rfl, by decide +kernel, yX2_become, cX2_become, 2, 1, rfl, rfl, ⟨by decide +kernel, by decide +kernel, by decide +kernel⟩, (xTs_in (tin_3 _ (List.mem_of_getElem? (i := 124) rfl)) rfl), (xTs_in (tin_3 _ (List.mem_of_getElem? (i := 125) rfl)) rfl), (xTs_in (tin_3 _ (List.mem_of_getElem? (i := 126) rfl)) rfl), (xTs_in (tin_1 _ (List.mem_of_getElem? (i := 2) rfl)) rfl), Or.inl ⟨1, rfl, by decide, _, _, rfl⟩⟩))
theorem tc_5_46 : Ptc 5 (245, 1, 53, 2, 4) := Or.inr (Or.inl (⟨rfl, by decide +kernel, yX4_readOnto, cX4_readOnto, 3, 1, rfl, rfl, ⟨by decide +kernel, by decide +kernel, by decide +kernel⟩, (xTs_in (tin_3 _ (List.mem_of_getElem? (i := 129) rfl)) rfl), (xTs_in (tin_3 _ (List.mem_of_getElem? (i := 130) rfl)) rfl), (xTs_in (tin_3 _ (List.mem_of_getElem? (i := 131) rfl)) rfl), (xTs_in (tin_1 _ (List.mem_of_getElem? (i := 4) rfl)) rfl), Or.inl ⟨3, rfl, by decide, _, _, rfl⟩⟩))
theorem tc_5_47 : Ptc 5 (252, 0, 4, 2, 0) := Or.inl (⟨rfl, by decide +kernel, rfl, yX0_isUnder, cX0_isUnder, 4, rfl, ⟨by decide +kernel, by decide +kernel, by decide +kernel⟩, (xTs_in (tin_4 _ (List.mem_of_getElem? (i := 25) rfl)) rfl), (xTs_in (tin_1 _ (List.mem_of_getElem? (i := 7) rfl)) rfl), Or.inl (xTs_in (tin_4 _ (List.mem_of_getElem? (i := 24) rfl)) rfl)⟩)
theorem tc_5_48 : Ptc 5 (255, 1, 43, 2, 3) := Or.inr (Or.inl (⟨rfl, by decide +kernel, yX3_isSheet, cX3_isSheet, 2, 1, rfl, rfl, ⟨by decide +kernel, by decide +kernel, by decide +kernel⟩, (xTs_in (tin_4 _ (List.mem_of_getElem? (i := 33) rfl)) rfl), (xTs_in (tin_4 _ (List.mem_of_getElem? (i := 34) rfl)) rfl), (xTs_in (tin_4 _ (List.mem_of_getElem? (i := 35) rfl)) rfl), (xTs_in (tin_1 _ (List.mem_of_getElem? (i := 5) rfl)) rfl), Or.inl ⟨2, rfl, by decide, _, _, rfl⟩⟩))
theorem tc_5_49 : Ptc 5 (258, 1, 45, 4, 3) := Or.inr (Or.inl (⟨rfl, by decide +kernel, yX3_lay, cX3_lay, 5, 3, rfl, rfl, ⟨by decide +kernel, by decide +kernel, by decide +kernel⟩, (xTs_in (tin_4 _ (List.mem_of_getElem? (i := 38) rfl)) rfl), (xTs_in (tin_4 _ (List.mem_of_getElem? (i := 39) rfl)) rfl), (xTs_in (tin_4 _ (List.mem_of_getElem? (i := 40) rfl)) rfl), (xTs_in (tin_1 _ (List.mem_of_getElem? (i := 5) rfl)) rfl), Or.inl ⟨2, rfl, by decide, _, _, rfl⟩⟩))
theorem tc_5_50 : Ptc 5 (261, 1, 44, 2, 3) := Or.inr (Or.inl (⟨rfl, by decide +kernel, yX3_wrongWith, cX3_wrongWith, 2, 1, rfl, rfl, ⟨by decide +kernel, by decide +kernel, by decide +kernel⟩, (xTs_in (tin_4 _ (List.mem_of_getElem? (i := 46) rfl)) rfl), (xTs_in (tin_4 _ (List.mem_of_getElem? (i := 47) rfl)) rfl), (xTs_in (tin_4 _ (List.mem_of_getElem? (i := 48) rfl)) rfl), (xTs_in (tin_1 _ (List.mem_of_getElem? (i := 5) rfl)) rfl), Or.inl ⟨2, rfl, by decide, _, _, rfl⟩⟩))
theorem tc_5_51 : Ptc 5 (267, 1, 47, 4, 3) := Or.inr (Or.inl (⟨rfl, by decide +kernel, yX3_set, cX3_set, 5, 3, rfl, rfl, ⟨by decide +kernel, by decide +kernel, by decide +kernel⟩, (xTs_in (tin_4 _ (List.mem_of_getElem? (i := 51) rfl)) rfl), (xTs_in (tin_4 _ (List.mem_of_getElem? (i := 52) rfl)) rfl), (xTs_in (tin_4 _ (List.mem_of_getElem? (i := 53) rfl)) rfl), (xTs_in (tin_1 _ (List.mem_of_getElem? (i := 5) rfl)) rfl), Or.inl ⟨2, rfl, by decide, _, _, rfl⟩⟩))
theorem tc_5_52 : Ptc 5 (274, 1, 48, 4, 3) := Or.inr (Or.inl (⟨rfl, by decide +kernel, yX3_hasPart, cX3_hasPart, 4, 3, rfl, rfl, ⟨by decide +kernel, by decide +kernel, by decide +kernel⟩, (xTs_in (tin_4 _ (List.mem_of_getElem? (i := 59) rfl)) rfl), (xTs_in (tin_4 _ (List.mem_of_getElem? (i := 60) rfl)) rfl), (xTs_in (tin_4 _ (List.mem_of_getElem? (i := 61) rfl)) rfl), (xTs_in (tin_1 _ (List.mem_of_getElem? (i := 5) rfl)) rfl), Or.inl ⟨2, rfl, by decide, _, _, rfl⟩⟩))
theorem tc_5_53 : Ptc 5 (277, 1, 49, 6, 3) := Or.inr (Or.inl (⟨rfl, by decide +kernel, yX3_move, cX3_move, 6, 5, rfl, rfl, ⟨by decide +kernel, by decide +kernel, by decide +kernel⟩, (xTs_in (tin_4 _ (List.mem_of_getElem? (i := 63) rfl)) rfl), (xTs_in (tin_4 _ (List.mem_of_getElem? (i := 64) rfl)) rfl), (xTs_in (tin_4 _ (List.mem_of_getElem? (i := 65) rfl)) rfl), (xTs_in (tin_1 _ (List.mem_of_getElem? (i := 5) rfl)) rfl), Or.inl ⟨2, rfl, by decide, _, _, rfl⟩⟩))
theorem tc_5_54 : Ptc 5 (281, 6, 0, 2, 0) := Or.inr (Or.inr (Or.inr (Or.inr (Or.inr (Or.inr (Or.inl (⟨rfl, (xTs_in (tin_3 _ (List.mem_of_getElem? (i := 61) rfl)) rfl)⟩)))))))
theorem tc_5_55 : Ptc 5 (286, 1, 46, 3, 3) := Or.inr (Or.inl (⟨rfl, by decide +kernel, yX3_numberAt, cX3_numberAt, 3, 2, rfl, rfl, ⟨by decide +kernel, by decide +kernel, by decide +kernel⟩, (xTs_in (tin_4 _ (List.mem_of_getElem? (i := 72) rfl)) rfl), (xTs_in (tin_4 _ (List.mem_of_getElem? (i := 73) rfl)) rfl), (xTs_in (tin_4 _ (List.mem_of_getElem? (i := 74) rfl)) rfl), (xTs_in (tin_1 _ (List.mem_of_getElem? (i := 5) rfl)) rfl), Or.inl ⟨2, rfl, by decide, _, _, rfl⟩⟩))
theorem tc_5_56 : Ptc 5 (289, 1, 122, 2, 5) := Or.inr (Or.inl (⟨rfl, by decide +kernel, yX5_firstThatCannot, cX5_firstThatCannot, 5, 1, rfl, rfl, ⟨by decide +kernel, by decide +kernel, by decide +kernel⟩, (xTs_in (tin_4 _ (List.mem_of_getElem? (i := 80) rfl)) rfl), (xTs_in (tin_4 _ (List.mem_of_getElem? (i := 82) rfl)) rfl), (xTs_in (tpr_2 _ (List.mem_of_getElem? (i := 5) rfl)) rfl), (xTs_in (tin_1 _ (List.mem_of_getElem? (i := 1) rfl)) rfl), Or.inl ⟨4, rfl, by decide, _, _, rfl⟩⟩))
theorem tc_5_57 : Ptc 5 (292, 1, 40, 1, 2) := Or.inr (Or.inl (⟨rfl, by decide +kernel, yX2_contracts, cX2_contracts, 3, 0, rfl, rfl, ⟨by decide +kernel, by decide +kernel, by decide +kernel⟩, (xTs_in (tin_4 _ (List.mem_of_getElem? (i := 104) rfl)) rfl), (xTs_in (tin_4 _ (List.mem_of_getElem? (i := 105) rfl)) rfl), (xTs_in (tin_4 _ (List.mem_of_getElem? (i := 106) rfl)) rfl), (xTs_in (tin_1 _ (List.mem_of_getElem? (i := 2) rfl)) rfl), Or.inl ⟨1, rfl, by decide, _, _, rfl⟩⟩))
theorem tc_5_58 : Ptc 5 (295, 1, 41, 1, 2) := Or.inr (Or.inl (⟨rfl, by decide +kernel, yX2_lovesTogether, cX2_lovesTogether, 3, 0, rfl, rfl, ⟨by decide +kernel, by decide +kernel, by decide +kernel⟩, (xTs_in (tin_4 _ (List.mem_of_getElem? (i := 109) rfl)) rfl), (xTs_in (tin_4 _ (List.mem_of_getElem? (i := 110) rfl)) rfl), (xTs_in (tin_4 _ (List.mem_of_getElem? (i := 111) rfl)) rfl), (xTs_in (tin_1 _ (List.mem_of_getElem? (i := 2) rfl)) rfl), Or.inl ⟨1, rfl, by decide, _, _, rfl⟩⟩))
theorem tc_5_59 : Ptc 5 (301, 1, 42, 1, 2) := Or.inr (Or.inl (⟨rfl, by decide +kernel, yX2_heldSpots, cX2_heldSpots, 3, 0, rfl, rfl, ⟨by decide +kernel, by decide +kernel, by decide +kernel⟩, (xTs_in (tin_4 _ (List.mem_of_getElem? (i := 113) rfl)) rfl), (xTs_in (tin_4 _ (List.mem_of_getElem? (i := 114) rfl)) rfl), (xTs_in (tin_4 _ (List.mem_of_getElem? (i := 115) rfl)) rfl), (xTs_in (tin_1 _ (List.mem_of_getElem? (i := 2) rfl)) rfl), Or.inl ⟨1, rfl, by decide, _, _, rfl⟩⟩))
theorem tc_5_60 : Ptc 5 (307, 7, 0, 2, 0) := Or.inr (Or.inr (Or.inr (Or.inr (Or.inr (Or.inr (Or.inr (⟨rfl, (xTs_in (tin_3 _ (List.mem_of_getElem? (i := 66) rfl)) rfl)⟩)))))))
theorem tc_5 : ∀ e ∈ xCT.getD 5 [], Ptc 5 e := by
  show ∀ e ∈ [(3, 4, 0, 1, 0), (15, 2, 228, 1, 2), (28, 2, 227, 1, 1), (35, 2, 230, 1, 4), (42, 2, 229, 1, 3), (51, 0, 116, 3, 0), (55, 1, 115, 2, 5), (63, 1, 27, 2, 2), (66, 1, 25, 2, 2), (82, 1, 29, 2, 2), (85, 1, 31, 2, 2), (88, 1, 30, 1, 2), (92, 1, 28, 3, 2), (96, 0, 117, 3, 0), (100, 1, 26, 3, 2), (113, 1, 33, 3, 2), (116, 1, 35, 2, 2), (122, 1, 36, 1, 2), (125, 1, 37, 1, 2), (137, 1, 34, 1, 2), (140, 1, 38, 1, 2), (143, 1, 5, 2, 1), (147, 1, 8, 1, 1), (151, 1, 11, 2, 1), (154, 1, 6, 1, 1), (157, 1, 14, 2, 1), (164, 1, 16, 1, 1), (167, 1, 17, 1, 1), (170, 1, 32, 2, 2), (173, 1, 19, 2, 1), (176, 1, 20, 2, 1), (182, 1, 18, 3, 1), (185, 1, 21, 1, 1), (188, 1, 22, 2, 1), (191, 1, 23, 1, 1), (200, 0, 0, 3, 0), (206, 1, 121, 2, 5), (210, 0, 120, 1, 0), (217, 1, 39, 1, 2), (220, 1, 119, 2, 5), (223, 0, 219, 1, 0), (228, 0, 118, 2, 0), (234, 1, 50, 2, 4), (237, 1, 51, 3, 4), (240, 1, 52, 1, 4), (242, 1, 24, 2, 2), (245, 1, 53, 2, 4), (252, 0, 4, 2, 0), (255, 1, 43, 2, 3), (258, 1, 45, 4, 3), (261, 1, 44, 2, 3), (267, 1, 47, 4, 3), (274, 1, 48, 4, 3), (277, 1, 49, 6, 3), (281, 6, 0, 2, 0), (286, 1, 46, 3, 3), (289, 1, 122, 2, 5), (292, 1, 40, 1, 2), (295, 1, 41, 1, 2), (301, 1, 42, 1, 2), (307, 7, 0, 2, 0)], Ptc 5 e
  exact List.forall_mem_cons.mpr ⟨tc_5_0, List.forall_mem_cons.mpr ⟨tc_5_1, List.forall_mem_cons.mpr ⟨tc_5_2, List.forall_mem_cons.mpr ⟨tc_5_3, List.forall_mem_cons.mpr ⟨tc_5_4, List.forall_mem_cons.mpr ⟨tc_5_5, List.forall_mem_cons.mpr ⟨tc_5_6, List.forall_mem_cons.mpr ⟨tc_5_7, List.forall_mem_cons.mpr ⟨tc_5_8, List.forall_mem_cons.mpr ⟨tc_5_9, List.forall_mem_cons.mpr ⟨tc_5_10, List.forall_mem_cons.mpr ⟨tc_5_11, List.forall_mem_cons.mpr ⟨tc_5_12, List.forall_mem_cons.mpr ⟨tc_5_13, List.forall_mem_cons.mpr ⟨tc_5_14, List.forall_mem_cons.mpr ⟨tc_5_15, List.forall_mem_cons.mpr ⟨tc_5_16, List.forall_mem_cons.mpr ⟨tc_5_17, List.forall_mem_cons.mpr ⟨tc_5_18, List.forall_mem_cons.mpr ⟨tc_5_19, List.forall_mem_cons.mpr ⟨tc_5_20, List.forall_mem_cons.mpr ⟨tc_5_21, List.forall_mem_cons.mpr ⟨tc_5_22, List.forall_mem_cons.mpr ⟨tc_5_23, List.forall_mem_cons.mpr ⟨tc_5_24, List.forall_mem_cons.mpr ⟨tc_5_25, List.forall_mem_cons.mpr ⟨tc_5_26, List.forall_mem_cons.mpr ⟨tc_5_27, List.forall_mem_cons.mpr ⟨tc_5_28, List.forall_mem_cons.mpr ⟨tc_5_29, List.forall_mem_cons.mpr ⟨tc_5_30, List.forall_mem_cons.mpr ⟨tc_5_31, List.forall_mem_cons.mpr ⟨tc_5_32, List.forall_mem_cons.mpr ⟨tc_5_33, List.forall_mem_cons.mpr ⟨tc_5_34, List.forall_mem_cons.mpr ⟨tc_5_35, List.forall_mem_cons.mpr ⟨tc_5_36, List.forall_mem_cons.mpr ⟨tc_5_37, List.forall_mem_cons.mpr ⟨tc_5_38, List.forall_mem_cons.mpr ⟨tc_5_39, List.forall_mem_cons.mpr ⟨tc_5_40, List.forall_mem_cons.mpr ⟨tc_5_41, List.forall_mem_cons.mpr ⟨tc_5_42, List.forall_mem_cons.mpr ⟨tc_5_43, List.forall_mem_cons.mpr ⟨tc_5_44, List.forall_mem_cons.mpr ⟨tc_5_45, List.forall_mem_cons.mpr ⟨tc_5_46, List.forall_mem_cons.mpr ⟨tc_5_47, List.forall_mem_cons.mpr ⟨tc_5_48, List.forall_mem_cons.mpr ⟨tc_5_49, List.forall_mem_cons.mpr ⟨tc_5_50, List.forall_mem_cons.mpr ⟨tc_5_51, List.forall_mem_cons.mpr ⟨tc_5_52, List.forall_mem_cons.mpr ⟨tc_5_53, List.forall_mem_cons.mpr ⟨tc_5_54, List.forall_mem_cons.mpr ⟨tc_5_55, List.forall_mem_cons.mpr ⟨tc_5_56, List.forall_mem_cons.mpr ⟨tc_5_57, List.forall_mem_cons.mpr ⟨tc_5_58, List.forall_mem_cons.mpr ⟨tc_5_59, List.forall_mem_cons.mpr ⟨tc_5_60, fun _ h => absurd h List.not_mem_nil⟩⟩⟩⟩⟩⟩⟩⟩⟩⟩⟩⟩⟩⟩⟩⟩⟩⟩⟩⟩⟩⟩⟩⟩⟩⟩⟩⟩⟩⟩⟩⟩⟩⟩⟩⟩⟩⟩⟩⟩⟩⟩⟩⟩⟩⟩⟩⟩⟩⟩⟩⟩⟩⟩⟩⟩⟩⟩⟩⟩⟩
theorem tc_6_0 : Ptc 6 (1, 4, 0, 1, 0) := Or.inr (Or.inr (Or.inr (Or.inr (Or.inl (⟨rfl, (xTs_in (tin_4 _ (List.mem_of_getElem? (i := 126) rfl)) rfl)⟩)))))
theorem tc_6_1 : Ptc 6 (60, 0, 124, 3, 0) := Or.inl (⟨rfl, by decide +kernel, rfl, yX6_in1, cX6_in1, 3, rfl, ⟨by decide +kernel, by decide +kernel, by decide +kernel⟩, (xTs_in (tin_4 _ (List.mem_of_getElem? (i := 209) rfl)) rfl), (xTs_in (tin_1 _ (List.mem_of_getElem? (i := 6) rfl)) rfl), Or.inl (xTs_in (tin_4 _ (List.mem_of_getElem? (i := 208) rfl)) rfl)⟩)
theorem tc_6_2 : Ptc 6 (64, 0, 125, 2, 0) := Or.inl (⟨rfl, by decide +kernel, rfl, yX6_most, cX6_most, 2, rfl, ⟨by decide +kernel, by decide +kernel, by decide +kernel⟩, (xTs_in (tin_5 _ (List.mem_of_getElem? (i := 5) rfl)) rfl), (xTs_in (tin_1 _ (List.mem_of_getElem? (i := 6) rfl)) rfl), Or.inl (xTs_in (tin_5 _ (List.mem_of_getElem? (i := 4) rfl)) rfl)⟩)
theorem tc_6_3 : Ptc 6 (68, 1, 129, 3, 6) := Or.inr (Or.inl (⟨rfl, by decide +kernel, yX6_get, cX6_get, 3, 2, rfl, rfl, ⟨by decide +kernel, by decide +kernel, by decide +kernel⟩, (xTs_in (tin_4 _ (List.mem_of_getElem? (i := 232) rfl)) rfl), (xTs_in (tin_4 _ (List.mem_of_getElem? (i := 234) rfl)) rfl), (xTs_in (tpr_2 _ (List.mem_of_getElem? (i := 10) rfl)) rfl), (xTs_in (tin_1 _ (List.mem_of_getElem? (i := 6) rfl)) rfl), Or.inl ⟨5, rfl, by decide, _, _, rfl⟩⟩))
theorem tc_6_4 : Ptc 6 (71, 0, 132, 3, 0) := Or.inl (⟨rfl, by decide +kernel, rfl, yX6_noiseOf, cX6_noiseOf, 5, rfl, ⟨by decide +kernel, by decide +kernel, by decide +kernel⟩, (xTs_in (tin_5 _ (List.mem_of_getElem? (i := 24) rfl)) rfl), (xTs_in (tin_1 _ (List.mem_of_getElem? (i := 6) rfl)) rfl), Or.inl (xTs_in (tin_5 _ (List.mem_of_getElem? (i := 23) rfl)) rfl)⟩)
theorem tc_6_5 : Ptc 6 (75, 1, 134, 2, 6) := Or.inr (Or.inl (⟨rfl, by decide +kernel, yX6_leaves, cX6_leaves, 3, 1, rfl, rfl, ⟨by decide +kernel, by decide +kernel, by decide +kernel⟩, (xTs_in (tin_4 _ (List.mem_of_getElem? (i := 236) rfl)) rfl), (xTs_in (tin_4 _ (List.mem_of_getElem? (i := 238) rfl)) rfl), (xTs_in (tpr_2 _ (List.mem_of_getElem? (i := 11) rfl)) rfl), (xTs_in (tin_1 _ (List.mem_of_getElem? (i := 6) rfl)) rfl), Or.inl ⟨5, rfl, by decide, _, _, rfl⟩⟩))
theorem tc_6_6 : Ptc 6 (79, 1, 137, 2, 6) := Or.inr (Or.inl (⟨rfl, by decide +kernel, yX6_whoAt, cX6_whoAt, 2, 1, rfl, rfl, ⟨by decide +kernel, by decide +kernel, by decide +kernel⟩, (xTs_in (tin_5 _ (List.mem_of_getElem? (i := 11) rfl)) rfl), (xTs_in (tin_5 _ (List.mem_of_getElem? (i := 13) rfl)) rfl), (xTs_in (tpr_2 _ (List.mem_of_getElem? (i := 14) rfl)) rfl), (xTs_in (tin_1 _ (List.mem_of_getElem? (i := 6) rfl)) rfl), Or.inl ⟨5, rfl, by decide, _, _, rfl⟩⟩))
theorem tc_6_7 : Ptc 6 (82, 0, 127, 2, 0) := Or.inl (⟨rfl, by decide +kernel, rfl, yX6_isIn, cX6_isIn, 2, rfl, ⟨by decide +kernel, by decide +kernel, by decide +kernel⟩, (xTs_in (tin_5 _ (List.mem_of_getElem? (i := 35) rfl)) rfl), (xTs_in (tin_1 _ (List.mem_of_getElem? (i := 6) rfl)) rfl), Or.inl (xTs_in (tin_5 _ (List.mem_of_getElem? (i := 34) rfl)) rfl)⟩)
theorem tc_6_8 : Ptc 6 (86, 1, 140, 3, 6) := Or.inr (Or.inl (⟨rfl, by decide +kernel, yX6_canBehind, cX6_canBehind, 3, 2, rfl, rfl, ⟨by decide +kernel, by decide +kernel, by decide +kernel⟩, (xTs_in (tin_5 _ (List.mem_of_getElem? (i := 60) rfl)) rfl), (xTs_in (tin_5 _ (List.mem_of_getElem? (i := 62) rfl)) rfl), (xTs_in (tpr_3 _ (List.mem_of_getElem? (i := 3) rfl)) rfl), (xTs_in (tin_1 _ (List.mem_of_getElem? (i := 6) rfl)) rfl), Or.inl ⟨5, rfl, by decide, _, _, rfl⟩⟩))
theorem tc_6_9 : Ptc 6 (89, 1, 139, 1, 6) := Or.inr (Or.inl (⟨rfl, by decide +kernel, yX6_latest, cX6_latest, 1, 0, rfl, rfl, ⟨by decide +kernel, by decide +kernel, by decide +kernel⟩, (xTs_in (tin_5 _ (List.mem_of_getElem? (i := 7) rfl)) rfl), (xTs_in (tin_5 _ (List.mem_of_getElem? (i := 9) rfl)) rfl), (xTs_in (tpr_2 _ (List.mem_of_getElem? (i := 13) rfl)) rfl), (xTs_in (tin_1 _ (List.mem_of_getElem? (i := 6) rfl)) rfl), Or.inl ⟨5, rfl, by decide, _, _, rfl⟩⟩))
theorem tc_6_10 : Ptc 6 (93, 1, 136, 2, 6) := Or.inr (Or.inl (⟨rfl, by decide +kernel, yX6_leftBy, cX6_leftBy, 2, 1, rfl, rfl, ⟨by decide +kernel, by decide +kernel, by decide +kernel⟩, (xTs_in (tin_5 _ (List.mem_of_getElem? (i := 15) rfl)) rfl), (xTs_in (tin_5 _ (List.mem_of_getElem? (i := 17) rfl)) rfl), (xTs_in (tpr_2 _ (List.mem_of_getElem? (i := 15) rfl)) rfl), (xTs_in (tin_1 _ (List.mem_of_getElem? (i := 6) rfl)) rfl), Or.inl ⟨5, rfl, by decide, _, _, rfl⟩⟩))
theorem tc_6_11 : Ptc 6 (96, 1, 133, 3, 6) := Or.inr (Or.inl (⟨rfl, by decide +kernel, yX6_noiseBy, cX6_noiseBy, 3, 2, rfl, rfl, ⟨by decide +kernel, by decide +kernel, by decide +kernel⟩, (xTs_in (tin_5 _ (List.mem_of_getElem? (i := 19) rfl)) rfl), (xTs_in (tin_5 _ (List.mem_of_getElem? (i := 21) rfl)) rfl), (xTs_in (tpr_3 _ (List.mem_of_getElem? (i := 0) rfl)) rfl), (xTs_in (tin_1 _ (List.mem_of_getElem? (i := 6) rfl)) rfl), Or.inl ⟨5, rfl, by decide, _, _, rfl⟩⟩))
theorem tc_6_12 : Ptc 6 (99, 1, 135, 2, 6) := Or.inr (Or.inl (⟨rfl, by decide +kernel, yX6_secondsOf, cX6_secondsOf, 3, 1, rfl, rfl, ⟨by decide +kernel, by decide +kernel, by decide +kernel⟩, (xTs_in (tin_5 _ (List.mem_of_getElem? (i := 0) rfl)) rfl), (xTs_in (tin_5 _ (List.mem_of_getElem? (i := 2) rfl)) rfl), (xTs_in (tpr_2 _ (List.mem_of_getElem? (i := 12) rfl)) rfl), (xTs_in (tin_1 _ (List.mem_of_getElem? (i := 6) rfl)) rfl), Or.inl ⟨5, rfl, by decide, _, _, rfl⟩⟩))
theorem tc_6_13 : Ptc 6 (102, 1, 130, 4, 6) := Or.inr (Or.inl (⟨rfl, by decide +kernel, yX6_puts, cX6_puts, 4, 3, rfl, rfl, ⟨by decide +kernel, by decide +kernel, by decide +kernel⟩, (xTs_in (tin_4 _ (List.mem_of_getElem? (i := 220) rfl)) rfl), (xTs_in (tin_4 _ (List.mem_of_getElem? (i := 222) rfl)) rfl), (xTs_in (tpr_2 _ (List.mem_of_getElem? (i := 8) rfl)) rfl), (xTs_in (tin_1 _ (List.mem_of_getElem? (i := 6) rfl)) rfl), Or.inl ⟨5, rfl, by decide, _, _, rfl⟩⟩))
theorem tc_6_14 : Ptc 6 (106, 1, 123, 2, 6) := Or.inr (Or.inl (⟨rfl, by decide +kernel, yX6_no, cX6_no, 2, 1, rfl, rfl, ⟨by decide +kernel, by decide +kernel, by decide +kernel⟩, (xTs_in (tin_4 _ (List.mem_of_getElem? (i := 211) rfl)) rfl), (xTs_in (tin_4 _ (List.mem_of_getElem? (i := 213) rfl)) rfl), (xTs_in (tpr_2 _ (List.mem_of_getElem? (i := 6) rfl)) rfl), (xTs_in (tin_1 _ (List.mem_of_getElem? (i := 6) rfl)) rfl), Or.inl ⟨5, rfl, by decide, _, _, rfl⟩⟩))
theorem tc_6_15 : Ptc 6 (109, 1, 143, 2, 6) := Or.inr (Or.inl (⟨rfl, by decide +kernel, yX6_addsBow, cX6_addsBow, 3, 1, rfl, rfl, ⟨by decide +kernel, by decide +kernel, by decide +kernel⟩, (xTs_in (tin_4 _ (List.mem_of_getElem? (i := 216) rfl)) rfl), (xTs_in (tin_4 _ (List.mem_of_getElem? (i := 218) rfl)) rfl), (xTs_in (tpr_2 _ (List.mem_of_getElem? (i := 7) rfl)) rfl), (xTs_in (tin_1 _ (List.mem_of_getElem? (i := 6) rfl)) rfl), Or.inl ⟨5, rfl, by decide, _, _, rfl⟩⟩))
theorem tc_6_16 : Ptc 6 (113, 1, 128, 2, 6) := Or.inr (Or.inl (⟨rfl, by decide +kernel, yX6_isBow, cX6_isBow, 2, 1, rfl, rfl, ⟨by decide +kernel, by decide +kernel, by decide +kernel⟩, (xTs_in (tin_4 _ (List.mem_of_getElem? (i := 228) rfl)) rfl), (xTs_in (tin_4 _ (List.mem_of_getElem? (i := 230) rfl)) rfl), (xTs_in (tpr_2 _ (List.mem_of_getElem? (i := 9) rfl)) rfl), (xTs_in (tin_1 _ (List.mem_of_getElem? (i := 6) rfl)) rfl), Or.inl ⟨5, rfl, by decide, _, _, rfl⟩⟩))
theorem tc_6_17 : Ptc 6 (117, 1, 131, 1, 6) := Or.inr (Or.inl (⟨rfl, by decide +kernel, yX6_allBows, cX6_allBows, 1, 0, rfl, rfl, ⟨by decide +kernel, by decide +kernel, by decide +kernel⟩, (xTs_in (tin_5 _ (List.mem_of_getElem? (i := 30) rfl)) rfl), (xTs_in (tin_5 _ (List.mem_of_getElem? (i := 32) rfl)) rfl), (xTs_in (tpr_3 _ (List.mem_of_getElem? (i := 1) rfl)) rfl), (xTs_in (tin_1 _ (List.mem_of_getElem? (i := 6) rfl)) rfl), Or.inl ⟨5, rfl, by decide, _, _, rfl⟩⟩))
theorem tc_6_18 : Ptc 6 (120, 0, 148, 1, 0) := Or.inl (⟨rfl, by decide +kernel, rfl, yX6_greatestRule, cX6_greatestRule, 1, rfl, ⟨by decide +kernel, by decide +kernel, by decide +kernel⟩, (xTs_in (tin_5 _ (List.mem_of_getElem? (i := 46) rfl)) rfl), (xTs_in (tin_1 _ (List.mem_of_getElem? (i := 6) rfl)) rfl), Or.inl (xTs_in (tin_5 _ (List.mem_of_getElem? (i := 45) rfl)) rfl)⟩)
theorem tc_6_19 : Ptc 6 (123, 1, 138, 1, 6) := Or.inr (Or.inl (⟨rfl, by decide +kernel, yX6_stageSet, cX6_stageSet, 3, 0, rfl, rfl, ⟨by decide +kernel, by decide +kernel, by decide +kernel⟩, (xTs_in (tin_5 _ (List.mem_of_getElem? (i := 56) rfl)) rfl), (xTs_in (tin_5 _ (List.mem_of_getElem? (i := 58) rfl)) rfl), (xTs_in (tpr_3 _ (List.mem_of_getElem? (i := 2) rfl)) rfl), (xTs_in (tin_1 _ (List.mem_of_getElem? (i := 6) rfl)) rfl), Or.inl ⟨5, rfl, by decide, _, _, rfl⟩⟩))
theorem tc_6_20 : Ptc 6 (126, 1, 142, 2, 6) := Or.inr (Or.inl (⟨rfl, by decide +kernel, yX6_comes, cX6_comes, 4, 1, rfl, rfl, ⟨by decide +kernel, by decide +kernel, by decide +kernel⟩, (xTs_in (tin_5 _ (List.mem_of_getElem? (i := 64) rfl)) rfl), (xTs_in (tin_5 _ (List.mem_of_getElem? (i := 66) rfl)) rfl), (xTs_in (tpr_3 _ (List.mem_of_getElem? (i := 4) rfl)) rfl), (xTs_in (tin_1 _ (List.mem_of_getElem? (i := 6) rfl)) rfl), Or.inl ⟨5, rfl, by decide, _, _, rfl⟩⟩))
theorem tc_6_21 : Ptc 6 (129, 1, 141, 2, 6) := Or.inr (Or.inl (⟨rfl, by decide +kernel, yX6_canSet, cX6_canSet, 4, 1, rfl, rfl, ⟨by decide +kernel, by decide +kernel, by decide +kernel⟩, (xTs_in (tin_5 _ (List.mem_of_getElem? (i := 84) rfl)) rfl), (xTs_in (tin_5 _ (List.mem_of_getElem? (i := 86) rfl)) rfl), (xTs_in (tpr_3 _ (List.mem_of_getElem? (i := 5) rfl)) rfl), (xTs_in (tin_1 _ (List.mem_of_getElem? (i := 6) rfl)) rfl), Or.inl ⟨5, rfl, by decide, _, _, rfl⟩⟩))
theorem tc_6_22 : Ptc 6 (132, 1, 155, 1, 6) := Or.inr (Or.inl (⟨rfl, by decide +kernel, yX6_fallsOfStage, cX6_fallsOfStage, 3, 0, rfl, rfl, ⟨by decide +kernel, by decide +kernel, by decide +kernel⟩, (xTs_in (tin_5 _ (List.mem_of_getElem? (i := 88) rfl)) rfl), (xTs_in (tin_5 _ (List.mem_of_getElem? (i := 90) rfl)) rfl), (xTs_in (tpr_3 _ (List.mem_of_getElem? (i := 6) rfl)) rfl), (xTs_in (tin_1 _ (List.mem_of_getElem? (i := 6) rfl)) rfl), Or.inl ⟨5, rfl, by decide, _, _, rfl⟩⟩))
theorem tc_6_23 : Ptc 6 (136, 1, 157, 4, 6) := Or.inr (Or.inl (⟨rfl, by decide +kernel, yX6_brings, cX6_brings, 5, 3, rfl, rfl, ⟨by decide +kernel, by decide +kernel, by decide +kernel⟩, (xTs_in (tin_5 _ (List.mem_of_getElem? (i := 101) rfl)) rfl), (xTs_in (tin_5 _ (List.mem_of_getElem? (i := 103) rfl)) rfl), (xTs_in (tpr_3 _ (List.mem_of_getElem? (i := 8) rfl)) rfl), (xTs_in (tin_1 _ (List.mem_of_getElem? (i := 6) rfl)) rfl), Or.inl ⟨5, rfl, by decide, _, _, rfl⟩⟩))
theorem tc_6_24 : Ptc 6 (139, 1, 158, 2, 6) := Or.inr (Or.inl (⟨rfl, by decide +kernel, yX6_findsBest, cX6_findsBest, 10, 1, rfl, rfl, ⟨by decide +kernel, by decide +kernel, by decide +kernel⟩, (xTs_in (tin_5 _ (List.mem_of_getElem? (i := 96) rfl)) rfl), (xTs_in (tin_5 _ (List.mem_of_getElem? (i := 98) rfl)) rfl), (xTs_in (tpr_3 _ (List.mem_of_getElem? (i := 7) rfl)) rfl), (xTs_in (tin_1 _ (List.mem_of_getElem? (i := 6) rfl)) rfl), Or.inl ⟨5, rfl, by decide, _, _, rfl⟩⟩))
theorem tc_6_25 : Ptc 6 (146, 1, 159, 2, 6) := Or.inr (Or.inl (⟨rfl, by decide +kernel, yX6_findsRow, cX6_findsRow, 8, 1, rfl, rfl, ⟨by decide +kernel, by decide +kernel, by decide +kernel⟩, (xTs_in (tin_5 _ (List.mem_of_getElem? (i := 109) rfl)) rfl), (xTs_in (tin_5 _ (List.mem_of_getElem? (i := 111) rfl)) rfl), (xTs_in (tpr_3 _ (List.mem_of_getElem? (i := 9) rfl)) rfl), (xTs_in (tin_1 _ (List.mem_of_getElem? (i := 6) rfl)) rfl), Or.inl ⟨5, rfl, by decide, _, _, rfl⟩⟩))
theorem tc_6_26 : Ptc 6 (149, 1, 162, 1, 6) := Or.inr (Or.inl (⟨rfl, by decide +kernel, yX6_countsWays, cX6_countsWays, 5, 0, rfl, rfl, ⟨by decide +kernel, by decide +kernel, by decide +kernel⟩, (xTs_in (tin_5 _ (List.mem_of_getElem? (i := 117) rfl)) rfl), (xTs_in (tin_5 _ (List.mem_of_getElem? (i := 119) rfl)) rfl), (xTs_in (tpr_3 _ (List.mem_of_getElem? (i := 10) rfl)) rfl), (xTs_in (tin_1 _ (List.mem_of_getElem? (i := 6) rfl)) rfl), Or.inl ⟨5, rfl, by decide, _, _, rfl⟩⟩))
theorem tc_6_27 : Ptc 6 (152, 0, 126, 1, 0) := Or.inl (⟨rfl, by decide +kernel, rfl, yX6_bits, cX6_bits, 3, rfl, ⟨by decide +kernel, by decide +kernel, by decide +kernel⟩, (xTs_in (tin_5 _ (List.mem_of_getElem? (i := 130) rfl)) rfl), (xTs_in (tin_1 _ (List.mem_of_getElem? (i := 6) rfl)) rfl), Or.inl (xTs_in (tin_5 _ (List.mem_of_getElem? (i := 129) rfl)) rfl)⟩)
theorem tc_6_28 : Ptc 6 (155, 1, 166, 2, 6) := Or.inr (Or.inl (⟨rfl, by decide +kernel, yX6_allAhead, cX6_allAhead, 5, 1, rfl, rfl, ⟨by decide +kernel, by decide +kernel, by decide +kernel⟩, (xTs_in (tin_5 _ (List.mem_of_getElem? (i := 136) rfl)) rfl), (xTs_in (tin_5 _ (List.mem_of_getElem? (i := 138) rfl)) rfl), (xTs_in (tpr_3 _ (List.mem_of_getElem? (i := 11) rfl)) rfl), (xTs_in (tin_1 _ (List.mem_of_getElem? (i := 6) rfl)) rfl), Or.inl ⟨5, rfl, by decide, _, _, rfl⟩⟩))
theorem tc_6_29 : Ptc 6 (161, 1, 172, 1, 6) := Or.inr (Or.inl (⟨rfl, by decide +kernel, yX6_findsFreed, cX6_findsFreed, 7, 0, rfl, rfl, ⟨by decide +kernel, by decide +kernel, by decide +kernel⟩, (xTs_in (tin_5 _ (List.mem_of_getElem? (i := 160) rfl)) rfl), (xTs_in (tin_5 _ (List.mem_of_getElem? (i := 162) rfl)) rfl), (xTs_in (tpr_3 _ (List.mem_of_getElem? (i := 12) rfl)) rfl), (xTs_in (tin_1 _ (List.mem_of_getElem? (i := 6) rfl)) rfl), Or.inl ⟨5, rfl, by decide, _, _, rfl⟩⟩))
theorem tc_6_30 : Ptc 6 (164, 1, 176, 3, 6) := Or.inr (Or.inl (⟨rfl, by decide +kernel, yX6_isAsked, cX6_isAsked, 3, 2, rfl, rfl, ⟨by decide +kernel, by decide +kernel, by decide +kernel⟩, (xTs_in (tin_5 _ (List.mem_of_getElem? (i := 176) rfl)) rfl), (xTs_in (tin_5 _ (List.mem_of_getElem? (i := 178) rfl)) rfl), (xTs_in (tpr_3 _ (List.mem_of_getElem? (i := 13) rfl)) rfl), (xTs_in (tin_1 _ (List.mem_of_getElem? (i := 6) rfl)) rfl), Or.inl ⟨5, rfl, by decide, _, _, rfl⟩⟩))
theorem tc_6_31 : Ptc 6 (169, 1, 179, 2, 6) := Or.inr (Or.inl (⟨rfl, by decide +kernel, yX6_silentAt, cX6_silentAt, 3, 1, rfl, rfl, ⟨by decide +kernel, by decide +kernel, by decide +kernel⟩, (xTs_in (tin_5 _ (List.mem_of_getElem? (i := 193) rfl)) rfl), (xTs_in (tin_5 _ (List.mem_of_getElem? (i := 195) rfl)) rfl), (xTs_in (tpr_3 _ (List.mem_of_getElem? (i := 15) rfl)) rfl), (xTs_in (tin_1 _ (List.mem_of_getElem? (i := 6) rfl)) rfl), Or.inl ⟨5, rfl, by decide, _, _, rfl⟩⟩))
theorem tc_6_32 : Ptc 6 (172, 0, 180, 1, 0) := Or.inl (⟨rfl, by decide +kernel, rfl, yX6_tens, cX6_tens, 4, rfl, ⟨by decide +kernel, by decide +kernel, by decide +kernel⟩, (xTs_in (tin_5 _ (List.mem_of_getElem? (i := 198) rfl)) rfl), (xTs_in (tin_1 _ (List.mem_of_getElem? (i := 6) rfl)) rfl), Or.inl (xTs_in (tin_5 _ (List.mem_of_getElem? (i := 197) rfl)) rfl)⟩)
theorem tc_6_33 : Ptc 6 (176, 1, 181, 2, 6) := Or.inr (Or.inl (⟨rfl, by decide +kernel, yX6_worthFrom, cX6_worthFrom, 7, 1, rfl, rfl, ⟨by decide +kernel, by decide +kernel, by decide +kernel⟩, (xTs_in (tin_5 _ (List.mem_of_getElem? (i := 188) rfl)) rfl), (xTs_in (tin_5 _ (List.mem_of_getElem? (i := 190) rfl)) rfl), (xTs_in (tpr_3 _ (List.mem_of_getElem? (i := 14) rfl)) rfl), (xTs_in (tin_1 _ (List.mem_of_getElem? (i := 6) rfl)) rfl), Or.inl ⟨5, rfl, by decide, _, _, rfl⟩⟩))
theorem tc_6_34 : Ptc 6 (180, 1, 184, 1, 6) := Or.inr (Or.inl (⟨rfl, by decide +kernel, yX6_draw, cX6_draw, 1, 0, rfl, rfl, ⟨by decide +kernel, by decide +kernel, by decide +kernel⟩, (xTs_in (tin_5 _ (List.mem_of_getElem? (i := 208) rfl)) rfl), (xTs_in (tin_5 _ (List.mem_of_getElem? (i := 210) rfl)) rfl), (xTs_in (tpr_4 _ (List.mem_of_getElem? (i := 0) rfl)) rfl), (xTs_in (tin_1 _ (List.mem_of_getElem? (i := 6) rfl)) rfl), Or.inl ⟨5, rfl, by decide, _, _, rfl⟩⟩))
theorem tc_6_35 : Ptc 6 (199, 0, 192, 1, 0) := Or.inl (⟨rfl, by decide +kernel, rfl, yX6_isLetter, cX6_isLetter, 1, rfl, ⟨by decide +kernel, by decide +kernel, by decide +kernel⟩, (xTs_in (tin_6 _ (List.mem_of_getElem? (i := 2) rfl)) rfl), (xTs_in (tin_1 _ (List.mem_of_getElem? (i := 6) rfl)) rfl), Or.inl (xTs_in (tin_6 _ (List.mem_of_getElem? (i := 1) rfl)) rfl)⟩)
theorem tc_6_36 : Ptc 6 (208, 0, 193, 1, 0) := Or.inl (⟨rfl, by decide +kernel, rfl, yX6_isDigit, cX6_isDigit, 1, rfl, ⟨by decide +kernel, by decide +kernel, by decide +kernel⟩, (xTs_in (tin_6 _ (List.mem_of_getElem? (i := 8) rfl)) rfl), (xTs_in (tin_1 _ (List.mem_of_getElem? (i := 6) rfl)) rfl), Or.inl (xTs_in (tin_6 _ (List.mem_of_getElem? (i := 7) rfl)) rfl)⟩)
theorem tc_6_37 : Ptc 6 (215, 1, 194, 1, 6) := Or.inr (Or.inl (⟨rfl, by decide +kernel, yX6_nextToken, cX6_nextToken, 1, 0, rfl, rfl, ⟨by decide +kernel, by decide +kernel, by decide +kernel⟩, (xTs_in (tin_5 _ (List.mem_of_getElem? (i := 237) rfl)) rfl), (xTs_in (tin_5 _ (List.mem_of_getElem? (i := 239) rfl)) rfl), (xTs_in (tpr_4 _ (List.mem_of_getElem? (i := 2) rfl)) rfl), (xTs_in (tin_1 _ (List.mem_of_getElem? (i := 6) rfl)) rfl), Or.inl ⟨5, rfl, by decide, _, _, rfl⟩⟩))
theorem tc_6_38 : Ptc 6 (218, 1, 195, 2, 6) := Or.inr (Or.inl (⟨rfl, by decide +kernel, yX6_wordOf, cX6_wordOf, 7, 1, rfl, rfl, ⟨by decide +kernel, by decide +kernel, by decide +kernel⟩, (xTs_in (tin_6 _ (List.mem_of_getElem? (i := 16) rfl)) rfl), (xTs_in (tin_6 _ (List.mem_of_getElem? (i := 18) rfl)) rfl), (xTs_in (tpr_4 _ (List.mem_of_getElem? (i := 4) rfl)) rfl), (xTs_in (tin_1 _ (List.mem_of_getElem? (i := 6) rfl)) rfl), Or.inl ⟨5, rfl, by decide, _, _, rfl⟩⟩))
theorem tc_6_39 : Ptc 6 (222, 1, 196, 3, 6) := Or.inr (Or.inl (⟨rfl, by decide +kernel, yX6_takesNumber, cX6_takesNumber, 4, 2, rfl, rfl, ⟨by decide +kernel, by decide +kernel, by decide +kernel⟩, (xTs_in (tin_6 _ (List.mem_of_getElem? (i := 24) rfl)) rfl), (xTs_in (tin_6 _ (List.mem_of_getElem? (i := 26) rfl)) rfl), (xTs_in (tpr_4 _ (List.mem_of_getElem? (i := 6) rfl)) rfl), (xTs_in (tin_1 _ (List.mem_of_getElem? (i := 6) rfl)) rfl), Or.inl ⟨5, rfl, by decide, _, _, rfl⟩⟩))
theorem tc_6_40 : Ptc 6 (225, 1, 197, 2, 6) := Or.inr (Or.inl (⟨rfl, by decide +kernel, yX6_readsBow, cX6_readsBow, 6, 1, rfl, rfl, ⟨by decide +kernel, by decide +kernel, by decide +kernel⟩, (xTs_in (tin_6 _ (List.mem_of_getElem? (i := 20) rfl)) rfl), (xTs_in (tin_6 _ (List.mem_of_getElem? (i := 22) rfl)) rfl), (xTs_in (tpr_4 _ (List.mem_of_getElem? (i := 5) rfl)) rfl), (xTs_in (tin_1 _ (List.mem_of_getElem? (i := 6) rfl)) rfl), Or.inl ⟨5, rfl, by decide, _, _, rfl⟩⟩))
theorem tc_6_41 : Ptc 6 (228, 1, 198, 1, 6) := Or.inr (Or.inl (⟨rfl, by decide +kernel, yX6_readsContract, cX6_readsContract, 3, 0, rfl, rfl, ⟨by decide +kernel, by decide +kernel, by decide +kernel⟩, (xTs_in (tin_6 _ (List.mem_of_getElem? (i := 28) rfl)) rfl), (xTs_in (tin_6 _ (List.mem_of_getElem? (i := 30) rfl)) rfl), (xTs_in (tpr_4 _ (List.mem_of_getElem? (i := 7) rfl)) rfl), (xTs_in (tin_1 _ (List.mem_of_getElem? (i := 6) rfl)) rfl), Or.inl ⟨5, rfl, by decide, _, _, rfl⟩⟩))
theorem tc_6_42 : Ptc 6 (232, 1, 188, 1, 6) := Or.inr (Or.inl (⟨rfl, by decide +kernel, yX6_setsAside, cX6_setsAside, 2, 0, rfl, rfl, ⟨by decide +kernel, by decide +kernel, by decide +kernel⟩, (xTs_in (tin_5 _ (List.mem_of_getElem? (i := 233) rfl)) rfl), (xTs_in (tin_5 _ (List.mem_of_getElem? (i := 235) rfl)) rfl), (xTs_in (tpr_4 _ (List.mem_of_getElem? (i := 1) rfl)) rfl), (xTs_in (tin_1 _ (List.mem_of_getElem? (i := 6) rfl)) rfl), Or.inl ⟨5, rfl, by decide, _, _, rfl⟩⟩))
theorem tc_6_43 : Ptc 6 (235, 1, 199, 1, 6) := Or.inr (Or.inl (⟨rfl, by decide +kernel, yX6_readsItem, cX6_readsItem, 4, 0, rfl, rfl, ⟨by decide +kernel, by decide +kernel, by decide +kernel⟩, (xTs_in (tin_6 _ (List.mem_of_getElem? (i := 12) rfl)) rfl), (xTs_in (tin_6 _ (List.mem_of_getElem? (i := 14) rfl)) rfl), (xTs_in (tpr_4 _ (List.mem_of_getElem? (i := 3) rfl)) rfl), (xTs_in (tin_1 _ (List.mem_of_getElem? (i := 6) rfl)) rfl), Or.inl ⟨5, rfl, by decide, _, _, rfl⟩⟩))
theorem tc_6_44 : Ptc 6 (238, 1, 189, 1, 6) := Or.inr (Or.inl (⟨rfl, by decide +kernel, yX6_laysBack, cX6_laysBack, 2, 0, rfl, rfl, ⟨by decide +kernel, by decide +kernel, by decide +kernel⟩, (xTs_in (tin_6 _ (List.mem_of_getElem? (i := 32) rfl)) rfl), (xTs_in (tin_6 _ (List.mem_of_getElem? (i := 34) rfl)) rfl), (xTs_in (tpr_4 _ (List.mem_of_getElem? (i := 8) rfl)) rfl), (xTs_in (tin_1 _ (List.mem_of_getElem? (i := 6) rfl)) rfl), Or.inl ⟨5, rfl, by decide, _, _, rfl⟩⟩))
theorem tc_6_45 : Ptc 6 (241, 0, 201, 1, 0) := Or.inl (⟨rfl, by decide +kernel, rfl, yX6_isSpot, cX6_isSpot, 1, rfl, ⟨by decide +kernel, by decide +kernel, by decide +kernel⟩, (xTs_in (tin_6 _ (List.mem_of_getElem? (i := 41) rfl)) rfl), (xTs_in (tin_1 _ (List.mem_of_getElem? (i := 6) rfl)) rfl), Or.inl (xTs_in (tin_6 _ (List.mem_of_getElem? (i := 40) rfl)) rfl)⟩)
theorem tc_6_46 : Ptc 6 (244, 0, 204, 1, 0) := Or.inl (⟨rfl, by decide +kernel, rfl, yX6_isSheet, cX6_isSheet, 1, rfl, ⟨by decide +kernel, by decide +kernel, by decide +kernel⟩, (xTs_in (tin_6 _ (List.mem_of_getElem? (i := 55) rfl)) rfl), (xTs_in (tin_1 _ (List.mem_of_getElem? (i := 6) rfl)) rfl), Or.inl (xTs_in (tin_6 _ (List.mem_of_getElem? (i := 54) rfl)) rfl)⟩)
theorem tc_6_47 : Ptc 6 (247, 0, 203, 1, 0) := Or.inl (⟨rfl, by decide +kernel, rfl, yX6_above, cX6_above, 1, rfl, ⟨by decide +kernel, by decide +kernel, by decide +kernel⟩, (xTs_in (tin_6 _ (List.mem_of_getElem? (i := 48) rfl)) rfl), (xTs_in (tin_1 _ (List.mem_of_getElem? (i := 6) rfl)) rfl), Or.inl (xTs_in (tin_6 _ (List.mem_of_getElem? (i := 47) rfl)) rfl)⟩)
theorem tc_6_48 : Ptc 6 (250, 1, 205, 2, 6) := Or.inr (Or.inl (⟨rfl, by decide +kernel, yX6_wrongSheet, cX6_wrongSheet, 2, 1, rfl, rfl, ⟨by decide +kernel, by decide +kernel, by decide +kernel⟩, (xTs_in (tin_6 _ (List.mem_of_getElem? (i := 61) rfl)) rfl), (xTs_in (tin_6 _ (List.mem_of_getElem? (i := 63) rfl)) rfl), (xTs_in (tpr_4 _ (List.mem_of_getElem? (i := 9) rfl)) rfl), (xTs_in (tin_1 _ (List.mem_of_getElem? (i := 6) rfl)) rfl), Or.inl ⟨5, rfl, by decide, _, _, rfl⟩⟩))
theorem tc_6_49 : Ptc 6 (256, 1, 211, 2, 6) := Or.inr (Or.inl (⟨rfl, by decide +kernel, yX6_comeOf, cX6_comeOf, 6, 1, rfl, rfl, ⟨by decide +kernel, by decide +kernel, by decide +kernel⟩, (xTs_in (tin_6 _ (List.mem_of_getElem? (i := 77) rfl)) rfl), (xTs_in (tin_6 _ (List.mem_of_getElem? (i := 79) rfl)) rfl), (xTs_in (tpr_4 _ (List.mem_of_getElem? (i := 10) rfl)) rfl), (xTs_in (tin_1 _ (List.mem_of_getElem? (i := 6) rfl)) rfl), Or.inl ⟨5, rfl, by decide, _, _, rfl⟩⟩))
theorem tc_6 : ∀ e ∈ xCT.getD 6 [], Ptc 6 e := by
  show ∀ e ∈ [(1, 4, 0, 1, 0), (60, 0, 124, 3, 0), (64, 0, 125, 2, 0), (68, 1, 129, 3, 6), (71, 0, 132, 3, 0), (75, 1, 134, 2, 6), (79, 1, 137, 2, 6), (82, 0, 127, 2, 0), (86, 1, 140, 3, 6), (89, 1, 139, 1, 6), (93, 1, 136, 2, 6), (96, 1, 133, 3, 6), (99, 1, 135, 2, 6), (102, 1, 130, 4, 6), (106, 1, 123, 2, 6), (109, 1, 143, 2, 6), (113, 1, 128, 2, 6), (117, 1, 131, 1, 6), (120, 0, 148, 1, 0), (123, 1, 138, 1, 6), (126, 1, 142, 2, 6), (129, 1, 141, 2, 6), (132, 1, 155, 1, 6), (136, 1, 157, 4, 6), (139, 1, 158, 2, 6), (146, 1, 159, 2, 6), (149, 1, 162, 1, 6), (152, 0, 126, 1, 0), (155, 1, 166, 2, 6), (161, 1, 172, 1, 6), (164, 1, 176, 3, 6), (169, 1, 179, 2, 6), (172, 0, 180, 1, 0), (176, 1, 181, 2, 6), (180, 1, 184, 1, 6), (199, 0, 192, 1, 0), (208, 0, 193, 1, 0), (215, 1, 194, 1, 6), (218, 1, 195, 2, 6), (222, 1, 196, 3, 6), (225, 1, 197, 2, 6), (228, 1, 198, 1, 6), (232, 1, 188, 1, 6), (235, 1, 199, 1, 6), (238, 1, 189, 1, 6), (241, 0, 201, 1, 0), (244, 0, 204, 1, 0), (247, 0, 203, 1, 0), (250, 1, 205, 2, 6), (256, 1, 211, 2, 6)], Ptc 6 e
  exact List.forall_mem_cons.mpr ⟨tc_6_0, List.forall_mem_cons.mpr ⟨tc_6_1, List.forall_mem_cons.mpr ⟨tc_6_2, List.forall_mem_cons.mpr ⟨tc_6_3, List.forall_mem_cons.mpr ⟨tc_6_4, List.forall_mem_cons.mpr ⟨tc_6_5, List.forall_mem_cons.mpr ⟨tc_6_6, List.forall_mem_cons.mpr ⟨tc_6_7, List.forall_mem_cons.mpr ⟨tc_6_8, List.forall_mem_cons.mpr ⟨tc_6_9, List.forall_mem_cons.mpr ⟨tc_6_10, List.forall_mem_cons.mpr ⟨tc_6_11, List.forall_mem_cons.mpr ⟨tc_6_12, List.forall_mem_cons.mpr ⟨tc_6_13, List.forall_mem_cons.mpr ⟨tc_6_14, List.forall_mem_cons.mpr ⟨tc_6_15, List.forall_mem_cons.mpr ⟨tc_6_16, List.forall_mem_cons.mpr ⟨tc_6_17, List.forall_mem_cons.mpr ⟨tc_6_18, List.forall_mem_cons.mpr ⟨tc_6_19, List.forall_mem_cons.mpr ⟨tc_6_20, List.forall_mem_cons.mpr ⟨tc_6_21, List.forall_mem_cons.mpr ⟨tc_6_22, List.forall_mem_cons.mpr ⟨tc_6_23, List.forall_mem_cons.mpr ⟨tc_6_24, List.forall_mem_cons.mpr ⟨tc_6_25, List.forall_mem_cons.mpr ⟨tc_6_26, List.forall_mem_cons.mpr ⟨tc_6_27, List.forall_mem_cons.mpr ⟨tc_6_28, List.forall_mem_cons.mpr ⟨tc_6_29, List.forall_mem_cons.mpr ⟨tc_6_30, List.forall_mem_cons.mpr ⟨tc_6_31, List.forall_mem_cons.mpr ⟨tc_6_32, List.forall_mem_cons.mpr ⟨tc_6_33, List.forall_mem_cons.mpr ⟨tc_6_34, List.forall_mem_cons.mpr ⟨tc_6_35, List.forall_mem_cons.mpr ⟨tc_6_36, List.forall_mem_cons.mpr ⟨tc_6_37, List.forall_mem_cons.mpr ⟨tc_6_38, List.forall_mem_cons.mpr ⟨tc_6_39, List.forall_mem_cons.mpr ⟨tc_6_40, List.forall_mem_cons.mpr ⟨tc_6_41, List.forall_mem_cons.mpr ⟨tc_6_42, List.forall_mem_cons.mpr ⟨tc_6_43, List.forall_mem_cons.mpr ⟨tc_6_44, List.forall_mem_cons.mpr ⟨tc_6_45, List.forall_mem_cons.mpr ⟨tc_6_46, List.forall_mem_cons.mpr ⟨tc_6_47, List.forall_mem_cons.mpr ⟨tc_6_48, List.forall_mem_cons.mpr ⟨tc_6_49, fun _ h => absurd h List.not_mem_nil⟩⟩⟩⟩⟩⟩⟩⟩⟩⟩⟩⟩⟩⟩⟩⟩⟩⟩⟩⟩⟩⟩⟩⟩⟩⟩⟩⟩⟩⟩⟩⟩⟩⟩⟩⟩⟩⟩⟩⟩⟩⟩⟩⟩⟩⟩⟩⟩⟩⟩
theorem tc_7_0 : Ptc 7 (9, 2, 231, 1, 5) := Or.inr (Or.inr (Or.inl (⟨rfl, by decide +kernel, ⟨xm_231, rfl, rfl⟩, yX5_init, cX5_init, 1, 0, rfl, rfl, ⟨by decide +kernel, by decide +kernel, by decide +kernel⟩, rfl, (xTs_in (tin_1 _ (List.mem_of_getElem? (i := 18) rfl)) rfl), (xTs_in (tin_1 _ (List.mem_of_getElem? (i := 1) rfl)) rfl), Or.inl (xTs_in (tin_1 _ (List.mem_of_getElem? (i := 17) rfl)) rfl), by decide, by decide⟩)))
theorem tc_7_1 : Ptc 7 (12, 2, 232, 1, 6) := Or.inr (Or.inr (Or.inl (⟨rfl, by decide +kernel, ⟨xm_232, rfl, rfl⟩, yX6_init, cX6_init, 2, 0, rfl, rfl, ⟨by decide +kernel, by decide +kernel, by decide +kernel⟩, rfl, (xTs_in (tin_4 _ (List.mem_of_getElem? (i := 124) rfl)) rfl), (xTs_in (tin_1 _ (List.mem_of_getElem? (i := 6) rfl)) rfl), Or.inl (xTs_in (tin_4 _ (List.mem_of_getElem? (i := 123) rfl)) rfl), by decide, by decide⟩)))
theorem tc_7_2 : Ptc 7 (13, 1, 68, 2, 5) := Or.inr (Or.inl (⟨rfl, by decide +kernel, yX5_bow, cX5_bow, 2, 1, rfl, rfl, ⟨by decide +kernel, by decide +kernel, by decide +kernel⟩, (xTs_in (tin_2 _ (List.mem_of_getElem? (i := 1) rfl)) rfl), (xTs_in (tin_2 _ (List.mem_of_getElem? (i := 2) rfl)) rfl), (xTs_in (tin_2 _ (List.mem_of_getElem? (i := 3) rfl)) rfl), (xTs_in (tin_1 _ (List.mem_of_getElem? (i := 1) rfl)) rfl), Or.inl ⟨4, rfl, by decide, _, _, rfl⟩⟩))
theorem tc_7_3 : Ptc 7 (17, 1, 144, 2, 6) := Or.inr (Or.inl (⟨rfl, by decide +kernel, yX6_bow, cX6_bow, 2, 1, rfl, rfl, ⟨by decide +kernel, by decide +kernel, by decide +kernel⟩, (xTs_in (tin_4 _ (List.mem_of_getElem? (i := 204) rfl)) rfl), (xTs_in (tin_4 _ (List.mem_of_getElem? (i := 205) rfl)) rfl), (xTs_in (tin_4 _ (List.mem_of_getElem? (i := 206) rfl)) rfl), (xTs_in (tin_1 _ (List.mem_of_getElem? (i := 6) rfl)) rfl), Or.inl ⟨5, rfl, by decide, _, _, rfl⟩⟩))
theorem tc_7_4 : Ptc 7 (18, 1, 69, 3, 5) := Or.inr (Or.inl (⟨rfl, by decide +kernel, yX5_of, cX5_of, 3, 2, rfl, rfl, ⟨by decide +kernel, by decide +kernel, by decide +kernel⟩, (xTs_in (tin_2 _ (List.mem_of_getElem? (i := 17) rfl)) rfl), (xTs_in (tin_2 _ (List.mem_of_getElem? (i := 18) rfl)) rfl), (xTs_in (tin_2 _ (List.mem_of_getElem? (i := 19) rfl)) rfl), (xTs_in (tin_1 _ (List.mem_of_getElem? (i := 1) rfl)) rfl), Or.inl ⟨4, rfl, by decide, _, _, rfl⟩⟩))
theorem tc_7_5 : Ptc 7 (22, 1, 145, 3, 6) := Or.inr (Or.inl (⟨rfl, by decide +kernel, yX6_of, cX6_of, 3, 2, rfl, rfl, ⟨by decide +kernel, by decide +kernel, by decide +kernel⟩, (xTs_in (tin_4 _ (List.mem_of_getElem? (i := 224) rfl)) rfl), (xTs_in (tin_4 _ (List.mem_of_getElem? (i := 225) rfl)) rfl), (xTs_in (tin_4 _ (List.mem_of_getElem? (i := 226) rfl)) rfl), (xTs_in (tin_1 _ (List.mem_of_getElem? (i := 6) rfl)) rfl), Or.inl ⟨5, rfl, by decide, _, _, rfl⟩⟩))
theorem tc_7_6 : Ptc 7 (23, 1, 70, 4, 5) := Or.inr (Or.inl (⟨rfl, by decide +kernel, yX5_change, cX5_change, 4, 3, rfl, rfl, ⟨by decide +kernel, by decide +kernel, by decide +kernel⟩, (xTs_in (tin_2 _ (List.mem_of_getElem? (i := 57) rfl)) rfl), (xTs_in (tin_2 _ (List.mem_of_getElem? (i := 58) rfl)) rfl), (xTs_in (tin_2 _ (List.mem_of_getElem? (i := 59) rfl)) rfl), (xTs_in (tin_1 _ (List.mem_of_getElem? (i := 1) rfl)) rfl), Or.inl ⟨4, rfl, by decide, _, _, rfl⟩⟩))
theorem tc_7_7 : Ptc 7 (27, 1, 146, 4, 6) := Or.inr (Or.inl (⟨rfl, by decide +kernel, yX6_change, cX6_change, 6, 3, rfl, rfl, ⟨by decide +kernel, by decide +kernel, by decide +kernel⟩, (xTs_in (tin_5 _ (List.mem_of_getElem? (i := 26) rfl)) rfl), (xTs_in (tin_5 _ (List.mem_of_getElem? (i := 27) rfl)) rfl), (xTs_in (tin_5 _ (List.mem_of_getElem? (i := 28) rfl)) rfl), (xTs_in (tin_1 _ (List.mem_of_getElem? (i := 6) rfl)) rfl), Or.inl ⟨5, rfl, by decide, _, _, rfl⟩⟩))
theorem tc_7_8 : Ptc 7 (28, 1, 71, 4, 5) := Or.inr (Or.inl (⟨rfl, by decide +kernel, yX5_contract, cX5_contract, 6, 3, rfl, rfl, ⟨by decide +kernel, by decide +kernel, by decide +kernel⟩, (xTs_in (tin_2 _ (List.mem_of_getElem? (i := 69) rfl)) rfl), (xTs_in (tin_2 _ (List.mem_of_getElem? (i := 70) rfl)) rfl), (xTs_in (tin_2 _ (List.mem_of_getElem? (i := 71) rfl)) rfl), (xTs_in (tin_1 _ (List.mem_of_getElem? (i := 1) rfl)) rfl), Or.inl ⟨4, rfl, by decide, _, _, rfl⟩⟩))
theorem tc_7_9 : Ptc 7 (31, 1, 147, 4, 6) := Or.inr (Or.inl (⟨rfl, by decide +kernel, yX6_contract, cX6_contract, 5, 3, rfl, rfl, ⟨by decide +kernel, by decide +kernel, by decide +kernel⟩, (xTs_in (tin_5 _ (List.mem_of_getElem? (i := 37) rfl)) rfl), (xTs_in (tin_5 _ (List.mem_of_getElem? (i := 38) rfl)) rfl), (xTs_in (tin_5 _ (List.mem_of_getElem? (i := 39) rfl)) rfl), (xTs_in (tin_1 _ (List.mem_of_getElem? (i := 6) rfl)) rfl), Or.inl ⟨5, rfl, by decide, _, _, rfl⟩⟩))
theorem tc_7_10 : Ptc 7 (32, 1, 72, 3, 5) := Or.inr (Or.inl (⟨rfl, by decide +kernel, yX5_rule, cX5_rule, 3, 2, rfl, rfl, ⟨by decide +kernel, by decide +kernel, by decide +kernel⟩, (xTs_in (tin_2 _ (List.mem_of_getElem? (i := 73) rfl)) rfl), (xTs_in (tin_2 _ (List.mem_of_getElem? (i := 74) rfl)) rfl), (xTs_in (tin_2 _ (List.mem_of_getElem? (i := 75) rfl)) rfl), (xTs_in (tin_1 _ (List.mem_of_getElem? (i := 1) rfl)) rfl), Or.inl ⟨4, rfl, by decide, _, _, rfl⟩⟩))
theorem tc_7_11 : Ptc 7 (35, 1, 149, 3, 6) := Or.inr (Or.inl (⟨rfl, by decide +kernel, yX6_rule, cX6_rule, 4, 2, rfl, rfl, ⟨by decide +kernel, by decide +kernel, by decide +kernel⟩, (xTs_in (tin_5 _ (List.mem_of_getElem? (i := 41) rfl)) rfl), (xTs_in (tin_5 _ (List.mem_of_getElem? (i := 42) rfl)) rfl), (xTs_in (tin_5 _ (List.mem_of_getElem? (i := 43) rfl)) rfl), (xTs_in (tin_1 _ (List.mem_of_getElem? (i := 6) rfl)) rfl), Or.inl ⟨5, rfl, by decide, _, _, rfl⟩⟩))
theorem tc_7_12 : Ptc 7 (36, 1, 73, 3, 5) := Or.inr (Or.inl (⟨rfl, by decide +kernel, yX5_noise, cX5_noise, 3, 2, rfl, rfl, ⟨by decide +kernel, by decide +kernel, by decide +kernel⟩, (xTs_in (tin_2 _ (List.mem_of_getElem? (i := 79) rfl)) rfl), (xTs_in (tin_2 _ (List.mem_of_getElem? (i := 80) rfl)) rfl), (xTs_in (tin_2 _ (List.mem_of_getElem? (i := 81) rfl)) rfl), (xTs_in (tin_1 _ (List.mem_of_getElem? (i := 1) rfl)) rfl), Or.inl ⟨4, rfl, by decide, _, _, rfl⟩⟩))
theorem tc_7_13 : Ptc 7 (39, 1, 150, 3, 6) := Or.inr (Or.inl (⟨rfl, by decide +kernel, yX6_noise, cX6_noise, 3, 2, rfl, rfl, ⟨by decide +kernel, by decide +kernel, by decide +kernel⟩, (xTs_in (tin_5 _ (List.mem_of_getElem? (i := 48) rfl)) rfl), (xTs_in (tin_5 _ (List.mem_of_getElem? (i := 49) rfl)) rfl), (xTs_in (tin_5 _ (List.mem_of_getElem? (i := 50) rfl)) rfl), (xTs_in (tin_1 _ (List.mem_of_getElem? (i := 6) rfl)) rfl), Or.inl ⟨5, rfl, by decide, _, _, rfl⟩⟩))
theorem tc_7_14 : Ptc 7 (40, 1, 74, 2, 5) := Or.inr (Or.inl (⟨rfl, by decide +kernel, yX5_come, cX5_come, 2, 1, rfl, rfl, ⟨by decide +kernel, by decide +kernel, by decide +kernel⟩, (xTs_in (tin_2 _ (List.mem_of_getElem? (i := 83) rfl)) rfl), (xTs_in (tin_2 _ (List.mem_of_getElem? (i := 84) rfl)) rfl), (xTs_in (tin_2 _ (List.mem_of_getElem? (i := 85) rfl)) rfl), (xTs_in (tin_1 _ (List.mem_of_getElem? (i := 1) rfl)) rfl), Or.inl ⟨4, rfl, by decide, _, _, rfl⟩⟩))
theorem tc_7_15 : Ptc 7 (43, 1, 151, 2, 6) := Or.inr (Or.inl (⟨rfl, by decide +kernel, yX6_come, cX6_come, 2, 1, rfl, rfl, ⟨by decide +kernel, by decide +kernel, by decide +kernel⟩, (xTs_in (tin_5 _ (List.mem_of_getElem? (i := 52) rfl)) rfl), (xTs_in (tin_5 _ (List.mem_of_getElem? (i := 53) rfl)) rfl), (xTs_in (tin_5 _ (List.mem_of_getElem? (i := 54) rfl)) rfl), (xTs_in (tin_1 _ (List.mem_of_getElem? (i := 6) rfl)) rfl), Or.inl ⟨5, rfl, by decide, _, _, rfl⟩⟩))
theorem tc_7_16 : Ptc 7 (44, 1, 75, 1, 5) := Or.inr (Or.inl (⟨rfl, by decide +kernel, yX5_back, cX5_back, 1, 0, rfl, rfl, ⟨by decide +kernel, by decide +kernel, by decide +kernel⟩, (xTs_in (tin_2 _ (List.mem_of_getElem? (i := 98) rfl)) rfl), (xTs_in (tin_2 _ (List.mem_of_getElem? (i := 99) rfl)) rfl), (xTs_in (tin_2 _ (List.mem_of_getElem? (i := 100) rfl)) rfl), (xTs_in (tin_1 _ (List.mem_of_getElem? (i := 1) rfl)) rfl), Or.inl ⟨4, rfl, by decide, _, _, rfl⟩⟩))
theorem tc_7_17 : Ptc 7 (48, 1, 152, 1, 6) := Or.inr (Or.inl (⟨rfl, by decide +kernel, yX6_back, cX6_back, 2, 0, rfl, rfl, ⟨by decide +kernel, by decide +kernel, by decide +kernel⟩, (xTs_in (tin_5 _ (List.mem_of_getElem? (i := 68) rfl)) rfl), (xTs_in (tin_5 _ (List.mem_of_getElem? (i := 69) rfl)) rfl), (xTs_in (tin_5 _ (List.mem_of_getElem? (i := 70) rfl)) rfl), (xTs_in (tin_1 _ (List.mem_of_getElem? (i := 6) rfl)) rfl), Or.inl ⟨5, rfl, by decide, _, _, rfl⟩⟩))
theorem tc_7_18 : Ptc 7 (49, 1, 76, 1, 5) := Or.inr (Or.inl (⟨rfl, by decide +kernel, yX5_clear, cX5_clear, 2, 0, rfl, rfl, ⟨by decide +kernel, by decide +kernel, by decide +kernel⟩, (xTs_in (tin_2 _ (List.mem_of_getElem? (i := 106) rfl)) rfl), (xTs_in (tin_2 _ (List.mem_of_getElem? (i := 107) rfl)) rfl), (xTs_in (tin_2 _ (List.mem_of_getElem? (i := 108) rfl)) rfl), (xTs_in (tin_1 _ (List.mem_of_getElem? (i := 1) rfl)) rfl), Or.inl ⟨4, rfl, by decide, _, _, rfl⟩⟩))
theorem tc_7_19 : Ptc 7 (52, 1, 153, 1, 6) := Or.inr (Or.inl (⟨rfl, by decide +kernel, yX6_clear, cX6_clear, 2, 0, rfl, rfl, ⟨by decide +kernel, by decide +kernel, by decide +kernel⟩, (xTs_in (tin_5 _ (List.mem_of_getElem? (i := 72) rfl)) rfl), (xTs_in (tin_5 _ (List.mem_of_getElem? (i := 73) rfl)) rfl), (xTs_in (tin_5 _ (List.mem_of_getElem? (i := 74) rfl)) rfl), (xTs_in (tin_1 _ (List.mem_of_getElem? (i := 6) rfl)) rfl), Or.inl ⟨5, rfl, by decide, _, _, rfl⟩⟩))
theorem tc_7_20 : Ptc 7 (53, 1, 77, 2, 5) := Or.inr (Or.inl (⟨rfl, by decide +kernel, yX5_stood, cX5_stood, 2, 1, rfl, rfl, ⟨by decide +kernel, by decide +kernel, by decide +kernel⟩, (xTs_in (tin_2 _ (List.mem_of_getElem? (i := 114) rfl)) rfl), (xTs_in (tin_2 _ (List.mem_of_getElem? (i := 115) rfl)) rfl), (xTs_in (tin_2 _ (List.mem_of_getElem? (i := 116) rfl)) rfl), (xTs_in (tin_1 _ (List.mem_of_getElem? (i := 1) rfl)) rfl), Or.inl ⟨4, rfl, by decide, _, _, rfl⟩⟩))
theorem tc_7_21 : Ptc 7 (56, 1, 154, 2, 6) := Or.inr (Or.inl (⟨rfl, by decide +kernel, yX6_stood, cX6_stood, 2, 1, rfl, rfl, ⟨by decide +kernel, by decide +kernel, by decide +kernel⟩, (xTs_in (tin_5 _ (List.mem_of_getElem? (i := 76) rfl)) rfl), (xTs_in (tin_5 _ (List.mem_of_getElem? (i := 77) rfl)) rfl), (xTs_in (tin_5 _ (List.mem_of_getElem? (i := 78) rfl)) rfl), (xTs_in (tin_1 _ (List.mem_of_getElem? (i := 6) rfl)) rfl), Or.inl ⟨5, rfl, by decide, _, _, rfl⟩⟩))
theorem tc_7_22 : Ptc 7 (57, 1, 78, 2, 5) := Or.inr (Or.inl (⟨rfl, by decide +kernel, yX5_now, cX5_now, 2, 1, rfl, rfl, ⟨by decide +kernel, by decide +kernel, by decide +kernel⟩, (xTs_in (tin_2 _ (List.mem_of_getElem? (i := 118) rfl)) rfl), (xTs_in (tin_2 _ (List.mem_of_getElem? (i := 119) rfl)) rfl), (xTs_in (tin_2 _ (List.mem_of_getElem? (i := 120) rfl)) rfl), (xTs_in (tin_1 _ (List.mem_of_getElem? (i := 1) rfl)) rfl), Or.inl ⟨4, rfl, by decide, _, _, rfl⟩⟩))
theorem tc_7_23 : Ptc 7 (60, 1, 156, 2, 6) := Or.inr (Or.inl (⟨rfl, by decide +kernel, yX6_now, cX6_now, 2, 1, rfl, rfl, ⟨by decide +kernel, by decide +kernel, by decide +kernel⟩, (xTs_in (tin_5 _ (List.mem_of_getElem? (i := 80) rfl)) rfl), (xTs_in (tin_5 _ (List.mem_of_getElem? (i := 81) rfl)) rfl), (xTs_in (tin_5 _ (List.mem_of_getElem? (i := 82) rfl)) rfl), (xTs_in (tin_1 _ (List.mem_of_getElem? (i := 6) rfl)) rfl), Or.inl ⟨5, rfl, by decide, _, _, rfl⟩⟩))
theorem tc_7_24 : Ptc 7 (61, 1, 79, 2, 5) := Or.inr (Or.inl (⟨rfl, by decide +kernel, yX5_best, cX5_best, 3, 1, rfl, rfl, ⟨by decide +kernel, by decide +kernel, by decide +kernel⟩, (xTs_in (tin_2 _ (List.mem_of_getElem? (i := 131) rfl)) rfl), (xTs_in (tin_2 _ (List.mem_of_getElem? (i := 132) rfl)) rfl), (xTs_in (tin_2 _ (List.mem_of_getElem? (i := 133) rfl)) rfl), (xTs_in (tin_1 _ (List.mem_of_getElem? (i := 1) rfl)) rfl), Or.inl ⟨4, rfl, by decide, _, _, rfl⟩⟩))
theorem tc_7_25 : Ptc 7 (64, 1, 160, 2, 6) := Or.inr (Or.inl (⟨rfl, by decide +kernel, yX6_best, cX6_best, 3, 1, rfl, rfl, ⟨by decide +kernel, by decide +kernel, by decide +kernel⟩, (xTs_in (tin_5 _ (List.mem_of_getElem? (i := 92) rfl)) rfl), (xTs_in (tin_5 _ (List.mem_of_getElem? (i := 93) rfl)) rfl), (xTs_in (tin_5 _ (List.mem_of_getElem? (i := 94) rfl)) rfl), (xTs_in (tin_1 _ (List.mem_of_getElem? (i := 6) rfl)) rfl), Or.inl ⟨5, rfl, by decide, _, _, rfl⟩⟩))
theorem tc_7_26 : Ptc 7 (65, 1, 80, 3, 5) := Or.inr (Or.inl (⟨rfl, by decide +kernel, yX5_ith, cX5_ith, 3, 2, rfl, rfl, ⟨by decide +kernel, by decide +kernel, by decide +kernel⟩, (xTs_in (tin_2 _ (List.mem_of_getElem? (i := 174) rfl)) rfl), (xTs_in (tin_2 _ (List.mem_of_getElem? (i := 175) rfl)) rfl), (xTs_in (tin_2 _ (List.mem_of_getElem? (i := 176) rfl)) rfl), (xTs_in (tin_1 _ (List.mem_of_getElem? (i := 1) rfl)) rfl), Or.inl ⟨4, rfl, by decide, _, _, rfl⟩⟩))
theorem tc_7_27 : Ptc 7 (68, 1, 161, 3, 6) := Or.inr (Or.inl (⟨rfl, by decide +kernel, yX6_ith, cX6_ith, 4, 2, rfl, rfl, ⟨by decide +kernel, by decide +kernel, by decide +kernel⟩, (xTs_in (tin_5 _ (List.mem_of_getElem? (i := 105) rfl)) rfl), (xTs_in (tin_5 _ (List.mem_of_getElem? (i := 106) rfl)) rfl), (xTs_in (tin_5 _ (List.mem_of_getElem? (i := 107) rfl)) rfl), (xTs_in (tin_1 _ (List.mem_of_getElem? (i := 6) rfl)) rfl), Or.inl ⟨5, rfl, by decide, _, _, rfl⟩⟩))
theorem tc_7_28 : Ptc 7 (69, 1, 81, 1, 5) := Or.inr (Or.inl (⟨rfl, by decide +kernel, yX5_ways, cX5_ways, 1, 0, rfl, rfl, ⟨by decide +kernel, by decide +kernel, by decide +kernel⟩, (xTs_in (tin_2 _ (List.mem_of_getElem? (i := 198) rfl)) rfl), (xTs_in (tin_2 _ (List.mem_of_getElem? (i := 199) rfl)) rfl), (xTs_in (tin_2 _ (List.mem_of_getElem? (i := 200) rfl)) rfl), (xTs_in (tin_1 _ (List.mem_of_getElem? (i := 1) rfl)) rfl), Or.inl ⟨4, rfl, by decide, _, _, rfl⟩⟩))
theorem tc_7_29 : Ptc 7 (72, 1, 163, 1, 6) := Or.inr (Or.inl (⟨rfl, by decide +kernel, yX6_ways, cX6_ways, 1, 0, rfl, rfl, ⟨by decide +kernel, by decide +kernel, by decide +kernel⟩, (xTs_in (tin_5 _ (List.mem_of_getElem? (i := 113) rfl)) rfl), (xTs_in (tin_5 _ (List.mem_of_getElem? (i := 114) rfl)) rfl), (xTs_in (tin_5 _ (List.mem_of_getElem? (i := 115) rfl)) rfl), (xTs_in (tin_1 _ (List.mem_of_getElem? (i := 6) rfl)) rfl), Or.inl ⟨5, rfl, by decide, _, _, rfl⟩⟩))
theorem tc_7_30 : Ptc 7 (73, 1, 82, 1, 5) := Or.inr (Or.inl (⟨rfl, by decide +kernel, yX5_lasts, cX5_lasts, 1, 0, rfl, rfl, ⟨by decide +kernel, by decide +kernel, by decide +kernel⟩, (xTs_in (tin_2 _ (List.mem_of_getElem? (i := 206) rfl)) rfl), (xTs_in (tin_2 _ (List.mem_of_getElem? (i := 207) rfl)) rfl), (xTs_in (tin_2 _ (List.mem_of_getElem? (i := 208) rfl)) rfl), (xTs_in (tin_1 _ (List.mem_of_getElem? (i := 1) rfl)) rfl), Or.inl ⟨4, rfl, by decide, _, _, rfl⟩⟩))
theorem tc_7_31 : Ptc 7 (76, 1, 164, 1, 6) := Or.inr (Or.inl (⟨rfl, by decide +kernel, yX6_lasts, cX6_lasts, 5, 0, rfl, rfl, ⟨by decide +kernel, by decide +kernel, by decide +kernel⟩, (xTs_in (tin_5 _ (List.mem_of_getElem? (i := 121) rfl)) rfl), (xTs_in (tin_5 _ (List.mem_of_getElem? (i := 122) rfl)) rfl), (xTs_in (tin_5 _ (List.mem_of_getElem? (i := 123) rfl)) rfl), (xTs_in (tin_1 _ (List.mem_of_getElem? (i := 6) rfl)) rfl), Or.inl ⟨5, rfl, by decide, _, _, rfl⟩⟩))
theorem tc_7_32 : Ptc 7 (77, 1, 83, 3, 5) := Or.inr (Or.inl (⟨rfl, by decide +kernel, yX5_place, cX5_place, 3, 2, rfl, rfl, ⟨by decide +kernel, by decide +kernel, by decide +kernel⟩, (xTs_in (tin_2 _ (List.mem_of_getElem? (i := 214) rfl)) rfl), (xTs_in (tin_2 _ (List.mem_of_getElem? (i := 215) rfl)) rfl), (xTs_in (tin_2 _ (List.mem_of_getElem? (i := 216) rfl)) rfl), (xTs_in (tin_1 _ (List.mem_of_getElem? (i := 1) rfl)) rfl), Or.inl ⟨4, rfl, by decide, _, _, rfl⟩⟩))
theorem tc_7_33 : Ptc 7 (80, 1, 165, 3, 6) := Or.inr (Or.inl (⟨rfl, by decide +kernel, yX6_place, cX6_place, 8, 2, rfl, rfl, ⟨by decide +kernel, by decide +kernel, by decide +kernel⟩, (xTs_in (tin_5 _ (List.mem_of_getElem? (i := 125) rfl)) rfl), (xTs_in (tin_5 _ (List.mem_of_getElem? (i := 126) rfl)) rfl), (xTs_in (tin_5 _ (List.mem_of_getElem? (i := 127) rfl)) rfl), (xTs_in (tin_1 _ (List.mem_of_getElem? (i := 6) rfl)) rfl), Or.inl ⟨5, rfl, by decide, _, _, rfl⟩⟩))
theorem tc_7_34 : Ptc 7 (81, 1, 84, 2, 5) := Or.inr (Or.inl (⟨rfl, by decide +kernel, yX5_all, cX5_all, 2, 1, rfl, rfl, ⟨by decide +kernel, by decide +kernel, by decide +kernel⟩, (xTs_in (tin_2 _ (List.mem_of_getElem? (i := 234) rfl)) rfl), (xTs_in (tin_2 _ (List.mem_of_getElem? (i := 235) rfl)) rfl), (xTs_in (tin_2 _ (List.mem_of_getElem? (i := 236) rfl)) rfl), (xTs_in (tin_1 _ (List.mem_of_getElem? (i := 1) rfl)) rfl), Or.inl ⟨4, rfl, by decide, _, _, rfl⟩⟩))
theorem tc_7_35 : Ptc 7 (84, 1, 167, 2, 6) := Or.inr (Or.inl (⟨rfl, by decide +kernel, yX6_all, cX6_all, 2, 1, rfl, rfl, ⟨by decide +kernel, by decide +kernel, by decide +kernel⟩, (xTs_in (tin_5 _ (List.mem_of_getElem? (i := 132) rfl)) rfl), (xTs_in (tin_5 _ (List.mem_of_getElem? (i := 133) rfl)) rfl), (xTs_in (tin_5 _ (List.mem_of_getElem? (i := 134) rfl)) rfl), (xTs_in (tin_1 _ (List.mem_of_getElem? (i := 6) rfl)) rfl), Or.inl ⟨5, rfl, by decide, _, _, rfl⟩⟩))
theorem tc_7_36 : Ptc 7 (85, 1, 85, 1, 5) := Or.inr (Or.inl (⟨rfl, by decide +kernel, yX5_clash, cX5_clash, 3, 0, rfl, rfl, ⟨by decide +kernel, by decide +kernel, by decide +kernel⟩, (xTs_in (tin_2 _ (List.mem_of_getElem? (i := 239) rfl)) rfl), (xTs_in (tin_3 _ (List.mem_of_getElem? (i := 0) rfl)) rfl), (xTs_in (tin_3 _ (List.mem_of_getElem? (i := 1) rfl)) rfl), (xTs_in (tin_1 _ (List.mem_of_getElem? (i := 1) rfl)) rfl), Or.inl ⟨4, rfl, by decide, _, _, rfl⟩⟩))
theorem tc_7_37 : Ptc 7 (88, 1, 168, 1, 6) := Or.inr (Or.inl (⟨rfl, by decide +kernel, yX6_clash, cX6_clash, 3, 0, rfl, rfl, ⟨by decide +kernel, by decide +kernel, by decide +kernel⟩, (xTs_in (tin_5 _ (List.mem_of_getElem? (i := 140) rfl)) rfl), (xTs_in (tin_5 _ (List.mem_of_getElem? (i := 141) rfl)) rfl), (xTs_in (tin_5 _ (List.mem_of_getElem? (i := 142) rfl)) rfl), (xTs_in (tin_1 _ (List.mem_of_getElem? (i := 6) rfl)) rfl), Or.inl ⟨5, rfl, by decide, _, _, rfl⟩⟩))
theorem tc_7_38 : Ptc 7 (89, 1, 86, 1, 5) := Or.inr (Or.inl (⟨rfl, by decide +kernel, yX5_broken, cX5_broken, 1, 0, rfl, rfl, ⟨by decide +kernel, by decide +kernel, by decide +kernel⟩, (xTs_in (tin_3 _ (List.mem_of_getElem? (i := 3) rfl)) rfl), (xTs_in (tin_3 _ (List.mem_of_getElem? (i := 4) rfl)) rfl), (xTs_in (tin_3 _ (List.mem_of_getElem? (i := 5) rfl)) rfl), (xTs_in (tin_1 _ (List.mem_of_getElem? (i := 1) rfl)) rfl), Or.inl ⟨4, rfl, by decide, _, _, rfl⟩⟩))
theorem tc_7_39 : Ptc 7 (92, 1, 169, 1, 6) := Or.inr (Or.inl (⟨rfl, by decide +kernel, yX6_broken, cX6_broken, 4, 0, rfl, rfl, ⟨by decide +kernel, by decide +kernel, by decide +kernel⟩, (xTs_in (tin_5 _ (List.mem_of_getElem? (i := 144) rfl)) rfl), (xTs_in (tin_5 _ (List.mem_of_getElem? (i := 145) rfl)) rfl), (xTs_in (tin_5 _ (List.mem_of_getElem? (i := 146) rfl)) rfl), (xTs_in (tin_1 _ (List.mem_of_getElem? (i := 6) rfl)) rfl), Or.inl ⟨5, rfl, by decide, _, _, rfl⟩⟩))
theorem tc_7_40 : Ptc 7 (93, 1, 87, 3, 5) := Or.inr (Or.inl (⟨rfl, by decide +kernel, yX5_between, cX5_between, 7, 2, rfl, rfl, ⟨by decide +kernel, by decide +kernel, by decide +kernel⟩, (xTs_in (tin_3 _ (List.mem_of_getElem? (i := 15) rfl)) rfl), (xTs_in (tin_3 _ (List.mem_of_getElem? (i := 16) rfl)) rfl), (xTs_in (tin_3 _ (List.mem_of_getElem? (i := 17) rfl)) rfl), (xTs_in (tin_1 _ (List.mem_of_getElem? (i := 1) rfl)) rfl), Or.inl ⟨4, rfl, by decide, _, _, rfl⟩⟩))
theorem tc_7_41 : Ptc 7 (96, 1, 170, 3, 6) := Or.inr (Or.inl (⟨rfl, by decide +kernel, yX6_between, cX6_between, 7, 2, rfl, rfl, ⟨by decide +kernel, by decide +kernel, by decide +kernel⟩, (xTs_in (tin_5 _ (List.mem_of_getElem? (i := 148) rfl)) rfl), (xTs_in (tin_5 _ (List.mem_of_getElem? (i := 149) rfl)) rfl), (xTs_in (tin_5 _ (List.mem_of_getElem? (i := 150) rfl)) rfl), (xTs_in (tin_1 _ (List.mem_of_getElem? (i := 6) rfl)) rfl), Or.inl ⟨5, rfl, by decide, _, _, rfl⟩⟩))
theorem tc_7_42 : Ptc 7 (97, 1, 88, 2, 5) := Or.inr (Or.inl (⟨rfl, by decide +kernel, yX5_kindFor, cX5_kindFor, 2, 1, rfl, rfl, ⟨by decide +kernel, by decide +kernel, by decide +kernel⟩, (xTs_in (tin_3 _ (List.mem_of_getElem? (i := 19) rfl)) rfl), (xTs_in (tin_3 _ (List.mem_of_getElem? (i := 20) rfl)) rfl), (xTs_in (tin_3 _ (List.mem_of_getElem? (i := 21) rfl)) rfl), (xTs_in (tin_1 _ (List.mem_of_getElem? (i := 1) rfl)) rfl), Or.inl ⟨4, rfl, by decide, _, _, rfl⟩⟩))
theorem tc_7_43 : Ptc 7 (100, 1, 171, 2, 6) := Or.inr (Or.inl (⟨rfl, by decide +kernel, yX6_kindFor, cX6_kindFor, 7, 1, rfl, rfl, ⟨by decide +kernel, by decide +kernel, by decide +kernel⟩, (xTs_in (tin_5 _ (List.mem_of_getElem? (i := 152) rfl)) rfl), (xTs_in (tin_5 _ (List.mem_of_getElem? (i := 153) rfl)) rfl), (xTs_in (tin_5 _ (List.mem_of_getElem? (i := 154) rfl)) rfl), (xTs_in (tin_1 _ (List.mem_of_getElem? (i := 6) rfl)) rfl), Or.inl ⟨5, rfl, by decide, _, _, rfl⟩⟩))
theorem tc_7_44 : Ptc 7 (101, 1, 89, 1, 5) := Or.inr (Or.inl (⟨rfl, by decide +kernel, yX5_freed, cX5_freed, 1, 0, rfl, rfl, ⟨by decide +kernel, by decide +kernel, by decide +kernel⟩, (xTs_in (tin_3 _ (List.mem_of_getElem? (i := 27) rfl)) rfl), (xTs_in (tin_3 _ (List.mem_of_getElem? (i := 28) rfl)) rfl), (xTs_in (tin_3 _ (List.mem_of_getElem? (i := 29) rfl)) rfl), (xTs_in (tin_1 _ (List.mem_of_getElem? (i := 1) rfl)) rfl), Or.inl ⟨4, rfl, by decide, _, _, rfl⟩⟩))
theorem tc_7_45 : Ptc 7 (104, 1, 173, 1, 6) := Or.inr (Or.inl (⟨rfl, by decide +kernel, yX6_freed, cX6_freed, 2, 0, rfl, rfl, ⟨by decide +kernel, by decide +kernel, by decide +kernel⟩, (xTs_in (tin_5 _ (List.mem_of_getElem? (i := 156) rfl)) rfl), (xTs_in (tin_5 _ (List.mem_of_getElem? (i := 157) rfl)) rfl), (xTs_in (tin_5 _ (List.mem_of_getElem? (i := 158) rfl)) rfl), (xTs_in (tin_1 _ (List.mem_of_getElem? (i := 6) rfl)) rfl), Or.inl ⟨5, rfl, by decide, _, _, rfl⟩⟩))
theorem tc_7_46 : Ptc 7 (105, 1, 90, 1, 5) := Or.inr (Or.inl (⟨rfl, by decide +kernel, yX5_free, cX5_free, 1, 0, rfl, rfl, ⟨by decide +kernel, by decide +kernel, by decide +kernel⟩, (xTs_in (tin_3 _ (List.mem_of_getElem? (i := 36) rfl)) rfl), (xTs_in (tin_3 _ (List.mem_of_getElem? (i := 37) rfl)) rfl), (xTs_in (tin_3 _ (List.mem_of_getElem? (i := 38) rfl)) rfl), (xTs_in (tin_1 _ (List.mem_of_getElem? (i := 1) rfl)) rfl), Or.inl ⟨4, rfl, by decide, _, _, rfl⟩⟩))
theorem tc_7_47 : Ptc 7 (108, 1, 174, 1, 6) := Or.inr (Or.inl (⟨rfl, by decide +kernel, yX6_free, cX6_free, 2, 0, rfl, rfl, ⟨by decide +kernel, by decide +kernel, by decide +kernel⟩, (xTs_in (tin_5 _ (List.mem_of_getElem? (i := 164) rfl)) rfl), (xTs_in (tin_5 _ (List.mem_of_getElem? (i := 165) rfl)) rfl), (xTs_in (tin_5 _ (List.mem_of_getElem? (i := 166) rfl)) rfl), (xTs_in (tin_1 _ (List.mem_of_getElem? (i := 6) rfl)) rfl), Or.inl ⟨5, rfl, by decide, _, _, rfl⟩⟩))
theorem tc_7_48 : Ptc 7 (109, 1, 91, 1, 5) := Or.inr (Or.inl (⟨rfl, by decide +kernel, yX5_train, cX5_train, 4, 0, rfl, rfl, ⟨by decide +kernel, by decide +kernel, by decide +kernel⟩, (xTs_in (tin_3 _ (List.mem_of_getElem? (i := 40) rfl)) rfl), (xTs_in (tin_3 _ (List.mem_of_getElem? (i := 41) rfl)) rfl), (xTs_in (tin_3 _ (List.mem_of_getElem? (i := 42) rfl)) rfl), (xTs_in (tin_1 _ (List.mem_of_getElem? (i := 1) rfl)) rfl), Or.inl ⟨4, rfl, by decide, _, _, rfl⟩⟩))
theorem tc_7_49 : Ptc 7 (112, 1, 175, 1, 6) := Or.inr (Or.inl (⟨rfl, by decide +kernel, yX6_train, cX6_train, 4, 0, rfl, rfl, ⟨by decide +kernel, by decide +kernel, by decide +kernel⟩, (xTs_in (tin_5 _ (List.mem_of_getElem? (i := 168) rfl)) rfl), (xTs_in (tin_5 _ (List.mem_of_getElem? (i := 169) rfl)) rfl), (xTs_in (tin_5 _ (List.mem_of_getElem? (i := 170) rfl)) rfl), (xTs_in (tin_1 _ (List.mem_of_getElem? (i := 6) rfl)) rfl), Or.inl ⟨5, rfl, by decide, _, _, rfl⟩⟩))
theorem tc_7_50 : Ptc 7 (113, 1, 92, 4, 5) := Or.inr (Or.inl (⟨rfl, by decide +kernel, yX5_fits, cX5_fits, 6, 3, rfl, rfl, ⟨by decide +kernel, by decide +kernel, by decide +kernel⟩, (xTs_in (tin_3 _ (List.mem_of_getElem? (i := 44) rfl)) rfl), (xTs_in (tin_3 _ (List.mem_of_getElem? (i := 45) rfl)) rfl), (xTs_in (tin_3 _ (List.mem_of_getElem? (i := 46) rfl)) rfl), (xTs_in (tin_1 _ (List.mem_of_getElem? (i := 1) rfl)) rfl), Or.inl ⟨4, rfl, by decide, _, _, rfl⟩⟩))
theorem tc_7_51 : Ptc 7 (116, 1, 177, 4, 6) := Or.inr (Or.inl (⟨rfl, by decide +kernel, yX6_fits, cX6_fits, 6, 3, rfl, rfl, ⟨by decide +kernel, by decide +kernel, by decide +kernel⟩, (xTs_in (tin_5 _ (List.mem_of_getElem? (i := 172) rfl)) rfl), (xTs_in (tin_5 _ (List.mem_of_getElem? (i := 173) rfl)) rfl), (xTs_in (tin_5 _ (List.mem_of_getElem? (i := 174) rfl)) rfl), (xTs_in (tin_1 _ (List.mem_of_getElem? (i := 6) rfl)) rfl), Or.inl ⟨5, rfl, by decide, _, _, rfl⟩⟩))
theorem tc_7_52 : Ptc 7 (117, 1, 93, 4, 5) := Or.inr (Or.inl (⟨rfl, by decide +kernel, yX5_love, cX5_love, 5, 3, rfl, rfl, ⟨by decide +kernel, by decide +kernel, by decide +kernel⟩, (xTs_in (tin_3 _ (List.mem_of_getElem? (i := 49) rfl)) rfl), (xTs_in (tin_3 _ (List.mem_of_getElem? (i := 50) rfl)) rfl), (xTs_in (tin_3 _ (List.mem_of_getElem? (i := 51) rfl)) rfl), (xTs_in (tin_1 _ (List.mem_of_getElem? (i := 1) rfl)) rfl), Or.inl ⟨4, rfl, by decide, _, _, rfl⟩⟩))
theorem tc_7_53 : Ptc 7 (120, 1, 178, 4, 6) := Or.inr (Or.inl (⟨rfl, by decide +kernel, yX6_love, cX6_love, 6, 3, rfl, rfl, ⟨by decide +kernel, by decide +kernel, by decide +kernel⟩, (xTs_in (tin_5 _ (List.mem_of_getElem? (i := 180) rfl)) rfl), (xTs_in (tin_5 _ (List.mem_of_getElem? (i := 181) rfl)) rfl), (xTs_in (tin_5 _ (List.mem_of_getElem? (i := 182) rfl)) rfl), (xTs_in (tin_1 _ (List.mem_of_getElem? (i := 6) rfl)) rfl), Or.inl ⟨5, rfl, by decide, _, _, rfl⟩⟩))
theorem tc_7_54 : Ptc 7 (121, 1, 94, 3, 5) := Or.inr (Or.inl (⟨rfl, by decide +kernel, yX5_curtain, cX5_curtain, 8, 2, rfl, rfl, ⟨by decide +kernel, by decide +kernel, by decide +kernel⟩, (xTs_in (tin_3 _ (List.mem_of_getElem? (i := 53) rfl)) rfl), (xTs_in (tin_3 _ (List.mem_of_getElem? (i := 54) rfl)) rfl), (xTs_in (tin_3 _ (List.mem_of_getElem? (i := 55) rfl)) rfl), (xTs_in (tin_1 _ (List.mem_of_getElem? (i := 1) rfl)) rfl), Or.inl ⟨4, rfl, by decide, _, _, rfl⟩⟩))
theorem tc_7_55 : Ptc 7 (125, 1, 182, 3, 6) := Or.inr (Or.inl (⟨rfl, by decide +kernel, yX6_curtain, cX6_curtain, 13, 2, rfl, rfl, ⟨by decide +kernel, by decide +kernel, by decide +kernel⟩, (xTs_in (tin_5 _ (List.mem_of_getElem? (i := 184) rfl)) rfl), (xTs_in (tin_5 _ (List.mem_of_getElem? (i := 185) rfl)) rfl), (xTs_in (tin_5 _ (List.mem_of_getElem? (i := 186) rfl)) rfl), (xTs_in (tin_1 _ (List.mem_of_getElem? (i := 6) rfl)) rfl), Or.inl ⟨5, rfl, by decide, _, _, rfl⟩⟩))
theorem tc_7_56 : Ptc 7 (126, 1, 95, 1, 5) := Or.inr (Or.inl (⟨rfl, by decide +kernel, yX5_stop, cX5_stop, 2, 0, rfl, rfl, ⟨by decide +kernel, by decide +kernel, by decide +kernel⟩, (xTs_in (tin_3 _ (List.mem_of_getElem? (i := 75) rfl)) rfl), (xTs_in (tin_3 _ (List.mem_of_getElem? (i := 76) rfl)) rfl), (xTs_in (tin_3 _ (List.mem_of_getElem? (i := 77) rfl)) rfl), (xTs_in (tin_1 _ (List.mem_of_getElem? (i := 1) rfl)) rfl), Or.inl ⟨4, rfl, by decide, _, _, rfl⟩⟩))
theorem tc_7_57 : Ptc 7 (129, 1, 183, 1, 6) := Or.inr (Or.inl (⟨rfl, by decide +kernel, yX6_stop, cX6_stop, 2, 0, rfl, rfl, ⟨by decide +kernel, by decide +kernel, by decide +kernel⟩, (xTs_in (tin_5 _ (List.mem_of_getElem? (i := 200) rfl)) rfl), (xTs_in (tin_5 _ (List.mem_of_getElem? (i := 201) rfl)) rfl), (xTs_in (tin_5 _ (List.mem_of_getElem? (i := 202) rfl)) rfl), (xTs_in (tin_1 _ (List.mem_of_getElem? (i := 6) rfl)) rfl), Or.inl ⟨5, rfl, by decide, _, _, rfl⟩⟩))
theorem tc_7_58 : Ptc 7 (130, 1, 96, 2, 5) := Or.inr (Or.inl (⟨rfl, by decide +kernel, yX5_evening, cX5_evening, 4, 1, rfl, rfl, ⟨by decide +kernel, by decide +kernel, by decide +kernel⟩, (xTs_in (tin_3 _ (List.mem_of_getElem? (i := 79) rfl)) rfl), (xTs_in (tin_3 _ (List.mem_of_getElem? (i := 80) rfl)) rfl), (xTs_in (tin_3 _ (List.mem_of_getElem? (i := 81) rfl)) rfl), (xTs_in (tin_1 _ (List.mem_of_getElem? (i := 1) rfl)) rfl), Or.inl ⟨4, rfl, by decide, _, _, rfl⟩⟩))
theorem tc_7_59 : Ptc 7 (133, 1, 185, 2, 6) := Or.inr (Or.inl (⟨rfl, by decide +kernel, yX6_evening, cX6_evening, 5, 1, rfl, rfl, ⟨by decide +kernel, by decide +kernel, by decide +kernel⟩, (xTs_in (tin_5 _ (List.mem_of_getElem? (i := 204) rfl)) rfl), (xTs_in (tin_5 _ (List.mem_of_getElem? (i := 205) rfl)) rfl), (xTs_in (tin_5 _ (List.mem_of_getElem? (i := 206) rfl)) rfl), (xTs_in (tin_1 _ (List.mem_of_getElem? (i := 6) rfl)) rfl), Or.inl ⟨5, rfl, by decide, _, _, rfl⟩⟩))
theorem tc_7_60 : Ptc 7 (134, 1, 97, 1, 5) := Or.inr (Or.inl (⟨rfl, by decide +kernel, yX5_lot, cX5_lot, 5, 0, rfl, rfl, ⟨by decide +kernel, by decide +kernel, by decide +kernel⟩, (xTs_in (tin_3 _ (List.mem_of_getElem? (i := 88) rfl)) rfl), (xTs_in (tin_3 _ (List.mem_of_getElem? (i := 89) rfl)) rfl), (xTs_in (tin_3 _ (List.mem_of_getElem? (i := 90) rfl)) rfl), (xTs_in (tin_1 _ (List.mem_of_getElem? (i := 1) rfl)) rfl), Or.inl ⟨4, rfl, by decide, _, _, rfl⟩⟩))
theorem tc_7_61 : Ptc 7 (137, 1, 186, 1, 6) := Or.inr (Or.inl (⟨rfl, by decide +kernel, yX6_lot, cX6_lot, 6, 0, rfl, rfl, ⟨by decide +kernel, by decide +kernel, by decide +kernel⟩, (xTs_in (tin_5 _ (List.mem_of_getElem? (i := 213) rfl)) rfl), (xTs_in (tin_5 _ (List.mem_of_getElem? (i := 214) rfl)) rfl), (xTs_in (tin_5 _ (List.mem_of_getElem? (i := 215) rfl)) rfl), (xTs_in (tin_1 _ (List.mem_of_getElem? (i := 6) rfl)) rfl), Or.inl ⟨5, rfl, by decide, _, _, rfl⟩⟩))
theorem tc_7_62 : Ptc 7 (138, 1, 98, 2, 5) := Or.inr (Or.inl (⟨rfl, by decide +kernel, yX5_seed, cX5_seed, 3, 1, rfl, rfl, ⟨by decide +kernel, by decide +kernel, by decide +kernel⟩, (xTs_in (tin_3 _ (List.mem_of_getElem? (i := 96) rfl)) rfl), (xTs_in (tin_3 _ (List.mem_of_getElem? (i := 97) rfl)) rfl), (xTs_in (tin_3 _ (List.mem_of_getElem? (i := 98) rfl)) rfl), (xTs_in (tin_1 _ (List.mem_of_getElem? (i := 1) rfl)) rfl), Or.inl ⟨4, rfl, by decide, _, _, rfl⟩⟩))
theorem tc_7_63 : Ptc 7 (141, 1, 187, 2, 6) := Or.inr (Or.inl (⟨rfl, by decide +kernel, yX6_seed, cX6_seed, 3, 1, rfl, rfl, ⟨by decide +kernel, by decide +kernel, by decide +kernel⟩, (xTs_in (tin_5 _ (List.mem_of_getElem? (i := 217) rfl)) rfl), (xTs_in (tin_5 _ (List.mem_of_getElem? (i := 218) rfl)) rfl), (xTs_in (tin_5 _ (List.mem_of_getElem? (i := 219) rfl)) rfl), (xTs_in (tin_1 _ (List.mem_of_getElem? (i := 6) rfl)) rfl), Or.inl ⟨5, rfl, by decide, _, _, rfl⟩⟩))
theorem tc_7_64 : Ptc 7 (142, 1, 99, 3, 5) := Or.inr (Or.inl (⟨rfl, by decide +kernel, yX5_feed, cX5_feed, 3, 2, rfl, rfl, ⟨by decide +kernel, by decide +kernel, by decide +kernel⟩, (xTs_in (tin_3 _ (List.mem_of_getElem? (i := 100) rfl)) rfl), (xTs_in (tin_3 _ (List.mem_of_getElem? (i := 101) rfl)) rfl), (xTs_in (tin_3 _ (List.mem_of_getElem? (i := 102) rfl)) rfl), (xTs_in (tin_1 _ (List.mem_of_getElem? (i := 1) rfl)) rfl), Or.inl ⟨4, rfl, by decide, _, _, rfl⟩⟩))
theorem tc_7_65 : Ptc 7 (145, 1, 190, 3, 6) := Or.inr (Or.inl (⟨rfl, by decide +kernel, yX6_feed, cX6_feed, 4, 2, rfl, rfl, ⟨by decide +kernel, by decide +kernel, by decide +kernel⟩, (xTs_in (tin_5 _ (List.mem_of_getElem? (i := 221) rfl)) rfl), (xTs_in (tin_5 _ (List.mem_of_getElem? (i := 222) rfl)) rfl), (xTs_in (tin_5 _ (List.mem_of_getElem? (i := 223) rfl)) rfl), (xTs_in (tin_1 _ (List.mem_of_getElem? (i := 6) rfl)) rfl), Or.inl ⟨5, rfl, by decide, _, _, rfl⟩⟩))
theorem tc_7_66 : Ptc 7 (146, 1, 100, 1, 5) := Or.inr (Or.inl (⟨rfl, by decide +kernel, yX5_wipe, cX5_wipe, 1, 0, rfl, rfl, ⟨by decide +kernel, by decide +kernel, by decide +kernel⟩, (xTs_in (tin_3 _ (List.mem_of_getElem? (i := 112) rfl)) rfl), (xTs_in (tin_3 _ (List.mem_of_getElem? (i := 113) rfl)) rfl), (xTs_in (tin_3 _ (List.mem_of_getElem? (i := 114) rfl)) rfl), (xTs_in (tin_1 _ (List.mem_of_getElem? (i := 1) rfl)) rfl), Or.inl ⟨4, rfl, by decide, _, _, rfl⟩⟩))
theorem tc_7_67 : Ptc 7 (149, 1, 191, 1, 6) := Or.inr (Or.inl (⟨rfl, by decide +kernel, yX6_wipe, cX6_wipe, 2, 0, rfl, rfl, ⟨by decide +kernel, by decide +kernel, by decide +kernel⟩, (xTs_in (tin_5 _ (List.mem_of_getElem? (i := 225) rfl)) rfl), (xTs_in (tin_5 _ (List.mem_of_getElem? (i := 226) rfl)) rfl), (xTs_in (tin_5 _ (List.mem_of_getElem? (i := 227) rfl)) rfl), (xTs_in (tin_1 _ (List.mem_of_getElem? (i := 6) rfl)) rfl), Or.inl ⟨5, rfl, by decide, _, _, rfl⟩⟩))
theorem tc_7_68 : Ptc 7 (150, 1, 101, 1, 5) := Or.inr (Or.inl (⟨rfl, by decide +kernel, yX5_text, cX5_text, 2, 0, rfl, rfl, ⟨by decide +kernel, by decide +kernel, by decide +kernel⟩, (xTs_in (tin_3 _ (List.mem_of_getElem? (i := 120) rfl)) rfl), (xTs_in (tin_3 _ (List.mem_of_getElem? (i := 121) rfl)) rfl), (xTs_in (tin_3 _ (List.mem_of_getElem? (i := 122) rfl)) rfl), (xTs_in (tin_1 _ (List.mem_of_getElem? (i := 1) rfl)) rfl), Or.inl ⟨4, rfl, by decide, _, _, rfl⟩⟩))
theorem tc_7_69 : Ptc 7 (153, 1, 200, 1, 6) := Or.inr (Or.inl (⟨rfl, by decide +kernel, yX6_text, cX6_text, 3, 0, rfl, rfl, ⟨by decide +kernel, by decide +kernel, by decide +kernel⟩, (xTs_in (tin_5 _ (List.mem_of_getElem? (i := 229) rfl)) rfl), (xTs_in (tin_5 _ (List.mem_of_getElem? (i := 230) rfl)) rfl), (xTs_in (tin_5 _ (List.mem_of_getElem? (i := 231) rfl)) rfl), (xTs_in (tin_1 _ (List.mem_of_getElem? (i := 6) rfl)) rfl), Or.inl ⟨5, rfl, by decide, _, _, rfl⟩⟩))
theorem tc_7_70 : Ptc 7 (154, 1, 102, 3, 5) := Or.inr (Or.inl (⟨rfl, by decide +kernel, yX5_hold, cX5_hold, 3, 2, rfl, rfl, ⟨by decide +kernel, by decide +kernel, by decide +kernel⟩, (xTs_in (tin_4 _ (List.mem_of_getElem? (i := 16) rfl)) rfl), (xTs_in (tin_4 _ (List.mem_of_getElem? (i := 17) rfl)) rfl), (xTs_in (tin_4 _ (List.mem_of_getElem? (i := 18) rfl)) rfl), (xTs_in (tin_1 _ (List.mem_of_getElem? (i := 1) rfl)) rfl), Or.inl ⟨4, rfl, by decide, _, _, rfl⟩⟩))
theorem tc_7_71 : Ptc 7 (157, 1, 202, 3, 6) := Or.inr (Or.inl (⟨rfl, by decide +kernel, yX6_hold, cX6_hold, 3, 2, rfl, rfl, ⟨by decide +kernel, by decide +kernel, by decide +kernel⟩, (xTs_in (tin_6 _ (List.mem_of_getElem? (i := 36) rfl)) rfl), (xTs_in (tin_6 _ (List.mem_of_getElem? (i := 37) rfl)) rfl), (xTs_in (tin_6 _ (List.mem_of_getElem? (i := 38) rfl)) rfl), (xTs_in (tin_1 _ (List.mem_of_getElem? (i := 6) rfl)) rfl), Or.inl ⟨5, rfl, by decide, _, _, rfl⟩⟩))
theorem tc_7_72 : Ptc 7 (158, 1, 103, 3, 5) := Or.inr (Or.inl (⟨rfl, by decide +kernel, yX5_as, cX5_as, 4, 2, rfl, rfl, ⟨by decide +kernel, by decide +kernel, by decide +kernel⟩, (xTs_in (tin_4 _ (List.mem_of_getElem? (i := 20) rfl)) rfl), (xTs_in (tin_4 _ (List.mem_of_getElem? (i := 21) rfl)) rfl), (xTs_in (tin_4 _ (List.mem_of_getElem? (i := 22) rfl)) rfl), (xTs_in (tin_1 _ (List.mem_of_getElem? (i := 1) rfl)) rfl), Or.inl ⟨4, rfl, by decide, _, _, rfl⟩⟩))
theorem tc_7_73 : Ptc 7 (161, 1, 206, 3, 6) := Or.inr (Or.inl (⟨rfl, by decide +kernel, yX6_as, cX6_as, 5, 2, rfl, rfl, ⟨by decide +kernel, by decide +kernel, by decide +kernel⟩, (xTs_in (tin_6 _ (List.mem_of_getElem? (i := 43) rfl)) rfl), (xTs_in (tin_6 _ (List.mem_of_getElem? (i := 44) rfl)) rfl), (xTs_in (tin_6 _ (List.mem_of_getElem? (i := 45) rfl)) rfl), (xTs_in (tin_1 _ (List.mem_of_getElem? (i := 6) rfl)) rfl), Or.inl ⟨5, rfl, by decide, _, _, rfl⟩⟩))
theorem tc_7_74 : Ptc 7 (162, 1, 104, 4, 5) := Or.inr (Or.inl (⟨rfl, by decide +kernel, yX5_sheet, cX5_sheet, 4, 3, rfl, rfl, ⟨by decide +kernel, by decide +kernel, by decide +kernel⟩, (xTs_in (tin_4 _ (List.mem_of_getElem? (i := 29) rfl)) rfl), (xTs_in (tin_4 _ (List.mem_of_getElem? (i := 30) rfl)) rfl), (xTs_in (tin_4 _ (List.mem_of_getElem? (i := 31) rfl)) rfl), (xTs_in (tin_1 _ (List.mem_of_getElem? (i := 1) rfl)) rfl), Or.inl ⟨4, rfl, by decide, _, _, rfl⟩⟩))
theorem tc_7_75 : Ptc 7 (165, 1, 207, 4, 6) := Or.inr (Or.inl (⟨rfl, by decide +kernel, yX6_sheet, cX6_sheet, 5, 3, rfl, rfl, ⟨by decide +kernel, by decide +kernel, by decide +kernel⟩, (xTs_in (tin_6 _ (List.mem_of_getElem? (i := 50) rfl)) rfl), (xTs_in (tin_6 _ (List.mem_of_getElem? (i := 51) rfl)) rfl), (xTs_in (tin_6 _ (List.mem_of_getElem? (i := 52) rfl)) rfl), (xTs_in (tin_1 _ (List.mem_of_getElem? (i := 6) rfl)) rfl), Or.inl ⟨5, rfl, by decide, _, _, rfl⟩⟩))
theorem tc_7_76 : Ptc 7 (166, 1, 105, 4, 5) := Or.inr (Or.inl (⟨rfl, by decide +kernel, yX5_write, cX5_write, 5, 3, rfl, rfl, ⟨by decide +kernel, by decide +kernel, by decide +kernel⟩, (xTs_in (tin_4 _ (List.mem_of_getElem? (i := 42) rfl)) rfl), (xTs_in (tin_4 _ (List.mem_of_getElem? (i := 43) rfl)) rfl), (xTs_in (tin_4 _ (List.mem_of_getElem? (i := 44) rfl)) rfl), (xTs_in (tin_1 _ (List.mem_of_getElem? (i := 1) rfl)) rfl), Or.inl ⟨4, rfl, by decide, _, _, rfl⟩⟩))
theorem tc_7_77 : Ptc 7 (169, 1, 208, 4, 6) := Or.inr (Or.inl (⟨rfl, by decide +kernel, yX6_write, cX6_write, 5, 3, rfl, rfl, ⟨by decide +kernel, by decide +kernel, by decide +kernel⟩, (xTs_in (tin_6 _ (List.mem_of_getElem? (i := 57) rfl)) rfl), (xTs_in (tin_6 _ (List.mem_of_getElem? (i := 58) rfl)) rfl), (xTs_in (tin_6 _ (List.mem_of_getElem? (i := 59) rfl)) rfl), (xTs_in (tin_1 _ (List.mem_of_getElem? (i := 6) rfl)) rfl), Or.inl ⟨5, rfl, by decide, _, _, rfl⟩⟩))
theorem tc_7_78 : Ptc 7 (170, 1, 106, 6, 5) := Or.inr (Or.inl (⟨rfl, by decide +kernel, yX5_copy, cX5_copy, 6, 5, rfl, rfl, ⟨by decide +kernel, by decide +kernel, by decide +kernel⟩, (xTs_in (tin_4 _ (List.mem_of_getElem? (i := 55) rfl)) rfl), (xTs_in (tin_4 _ (List.mem_of_getElem? (i := 56) rfl)) rfl), (xTs_in (tin_4 _ (List.mem_of_getElem? (i := 57) rfl)) rfl), (xTs_in (tin_1 _ (List.mem_of_getElem? (i := 1) rfl)) rfl), Or.inl ⟨4, rfl, by decide, _, _, rfl⟩⟩))
theorem tc_7_79 : Ptc 7 (174, 1, 209, 6, 6) := Or.inr (Or.inl (⟨rfl, by decide +kernel, yX6_copy, cX6_copy, 7, 5, rfl, rfl, ⟨by decide +kernel, by decide +kernel, by decide +kernel⟩, (xTs_in (tin_6 _ (List.mem_of_getElem? (i := 65) rfl)) rfl), (xTs_in (tin_6 _ (List.mem_of_getElem? (i := 66) rfl)) rfl), (xTs_in (tin_6 _ (List.mem_of_getElem? (i := 67) rfl)) rfl), (xTs_in (tin_1 _ (List.mem_of_getElem? (i := 6) rfl)) rfl), Or.inl ⟨5, rfl, by decide, _, _, rfl⟩⟩))
theorem tc_7_80 : Ptc 7 (175, 1, 107, 2, 5) := Or.inr (Or.inl (⟨rfl, by decide +kernel, yX5_load, cX5_load, 5, 1, rfl, rfl, ⟨by decide +kernel, by decide +kernel, by decide +kernel⟩, (xTs_in (tin_4 _ (List.mem_of_getElem? (i := 68) rfl)) rfl), (xTs_in (tin_4 _ (List.mem_of_getElem? (i := 69) rfl)) rfl), (xTs_in (tin_4 _ (List.mem_of_getElem? (i := 70) rfl)) rfl), (xTs_in (tin_1 _ (List.mem_of_getElem? (i := 1) rfl)) rfl), Or.inl ⟨4, rfl, by decide, _, _, rfl⟩⟩))
theorem tc_7_81 : Ptc 7 (178, 1, 210, 2, 6) := Or.inr (Or.inl (⟨rfl, by decide +kernel, yX6_load, cX6_load, 4, 1, rfl, rfl, ⟨by decide +kernel, by decide +kernel, by decide +kernel⟩, (xTs_in (tin_6 _ (List.mem_of_getElem? (i := 69) rfl)) rfl), (xTs_in (tin_6 _ (List.mem_of_getElem? (i := 70) rfl)) rfl), (xTs_in (tin_6 _ (List.mem_of_getElem? (i := 71) rfl)) rfl), (xTs_in (tin_1 _ (List.mem_of_getElem? (i := 6) rfl)) rfl), Or.inl ⟨5, rfl, by decide, _, _, rfl⟩⟩))
theorem tc_7_82 : Ptc 7 (179, 1, 108, 2, 5) := Or.inr (Or.inl (⟨rfl, by decide +kernel, yX5_judge, cX5_judge, 3, 1, rfl, rfl, ⟨by decide +kernel, by decide +kernel, by decide +kernel⟩, (xTs_in (tin_4 _ (List.mem_of_getElem? (i := 76) rfl)) rfl), (xTs_in (tin_4 _ (List.mem_of_getElem? (i := 77) rfl)) rfl), (xTs_in (tin_4 _ (List.mem_of_getElem? (i := 78) rfl)) rfl), (xTs_in (tin_1 _ (List.mem_of_getElem? (i := 1) rfl)) rfl), Or.inl ⟨4, rfl, by decide, _, _, rfl⟩⟩))
theorem tc_7_83 : Ptc 7 (182, 1, 212, 2, 6) := Or.inr (Or.inl (⟨rfl, by decide +kernel, yX6_judge, cX6_judge, 4, 1, rfl, rfl, ⟨by decide +kernel, by decide +kernel, by decide +kernel⟩, (xTs_in (tin_6 _ (List.mem_of_getElem? (i := 73) rfl)) rfl), (xTs_in (tin_6 _ (List.mem_of_getElem? (i := 74) rfl)) rfl), (xTs_in (tin_6 _ (List.mem_of_getElem? (i := 75) rfl)) rfl), (xTs_in (tin_1 _ (List.mem_of_getElem? (i := 6) rfl)) rfl), Or.inl ⟨5, rfl, by decide, _, _, rfl⟩⟩))
theorem tc_7_84 : Ptc 7 (183, 1, 109, 2, 5) := Or.inr (Or.inl (⟨rfl, by decide +kernel, yX5_loud, cX5_loud, 7, 1, rfl, rfl, ⟨by decide +kernel, by decide +kernel, by decide +kernel⟩, (xTs_in (tin_4 _ (List.mem_of_getElem? (i := 84) rfl)) rfl), (xTs_in (tin_4 _ (List.mem_of_getElem? (i := 85) rfl)) rfl), (xTs_in (tin_4 _ (List.mem_of_getElem? (i := 86) rfl)) rfl), (xTs_in (tin_1 _ (List.mem_of_getElem? (i := 1) rfl)) rfl), Or.inl ⟨4, rfl, by decide, _, _, rfl⟩⟩))
theorem tc_7_85 : Ptc 7 (186, 1, 213, 2, 6) := Or.inr (Or.inl (⟨rfl, by decide +kernel, yX6_loud, cX6_loud, 4, 1, rfl, rfl, ⟨by decide +kernel, by decide +kernel, by decide +kernel⟩, (xTs_in (tin_6 _ (List.mem_of_getElem? (i := 81) rfl)) rfl), (xTs_in (tin_6 _ (List.mem_of_getElem? (i := 82) rfl)) rfl), (xTs_in (tin_6 _ (List.mem_of_getElem? (i := 83) rfl)) rfl), (xTs_in (tin_1 _ (List.mem_of_getElem? (i := 6) rfl)) rfl), Or.inl ⟨5, rfl, by decide, _, _, rfl⟩⟩))
theorem tc_7_86 : Ptc 7 (187, 1, 110, 1, 5) := Or.inr (Or.inl (⟨rfl, by decide +kernel, yX5_image, cX5_image, 1, 0, rfl, rfl, ⟨by decide +kernel, by decide +kernel, by decide +kernel⟩, (xTs_in (tin_4 _ (List.mem_of_getElem? (i := 88) rfl)) rfl), (xTs_in (tin_4 _ (List.mem_of_getElem? (i := 89) rfl)) rfl), (xTs_in (tin_4 _ (List.mem_of_getElem? (i := 90) rfl)) rfl), (xTs_in (tin_1 _ (List.mem_of_getElem? (i := 1) rfl)) rfl), Or.inl ⟨4, rfl, by decide, _, _, rfl⟩⟩))
theorem tc_7_87 : Ptc 7 (190, 1, 214, 1, 6) := Or.inr (Or.inl (⟨rfl, by decide +kernel, yX6_image, cX6_image, 2, 0, rfl, rfl, ⟨by decide +kernel, by decide +kernel, by decide +kernel⟩, (xTs_in (tin_6 _ (List.mem_of_getElem? (i := 85) rfl)) rfl), (xTs_in (tin_6 _ (List.mem_of_getElem? (i := 86) rfl)) rfl), (xTs_in (tin_6 _ (List.mem_of_getElem? (i := 87) rfl)) rfl), (xTs_in (tin_1 _ (List.mem_of_getElem? (i := 6) rfl)) rfl), Or.inl ⟨5, rfl, by decide, _, _, rfl⟩⟩))
theorem tc_7_88 : Ptc 7 (191, 1, 111, 1, 5) := Or.inr (Or.inl (⟨rfl, by decide +kernel, yX5_undo, cX5_undo, 1, 0, rfl, rfl, ⟨by decide +kernel, by decide +kernel, by decide +kernel⟩, (xTs_in (tin_4 _ (List.mem_of_getElem? (i := 92) rfl)) rfl), (xTs_in (tin_4 _ (List.mem_of_getElem? (i := 93) rfl)) rfl), (xTs_in (tin_4 _ (List.mem_of_getElem? (i := 94) rfl)) rfl), (xTs_in (tin_1 _ (List.mem_of_getElem? (i := 1) rfl)) rfl), Or.inl ⟨4, rfl, by decide, _, _, rfl⟩⟩))
theorem tc_7_89 : Ptc 7 (194, 1, 215, 1, 6) := Or.inr (Or.inl (⟨rfl, by decide +kernel, yX6_undo, cX6_undo, 2, 0, rfl, rfl, ⟨by decide +kernel, by decide +kernel, by decide +kernel⟩, (xTs_in (tin_6 _ (List.mem_of_getElem? (i := 89) rfl)) rfl), (xTs_in (tin_6 _ (List.mem_of_getElem? (i := 90) rfl)) rfl), (xTs_in (tin_6 _ (List.mem_of_getElem? (i := 91) rfl)) rfl), (xTs_in (tin_1 _ (List.mem_of_getElem? (i := 6) rfl)) rfl), Or.inl ⟨5, rfl, by decide, _, _, rfl⟩⟩))
theorem tc_7_90 : Ptc 7 (195, 1, 112, 1, 5) := Or.inr (Or.inl (⟨rfl, by decide +kernel, yX5_tear, cX5_tear, 2, 0, rfl, rfl, ⟨by decide +kernel, by decide +kernel, by decide +kernel⟩, (xTs_in (tin_4 _ (List.mem_of_getElem? (i := 96) rfl)) rfl), (xTs_in (tin_4 _ (List.mem_of_getElem? (i := 97) rfl)) rfl), (xTs_in (tin_4 _ (List.mem_of_getElem? (i := 98) rfl)) rfl), (xTs_in (tin_1 _ (List.mem_of_getElem? (i := 1) rfl)) rfl), Or.inl ⟨4, rfl, by decide, _, _, rfl⟩⟩))
theorem tc_7_91 : Ptc 7 (198, 1, 216, 1, 6) := Or.inr (Or.inl (⟨rfl, by decide +kernel, yX6_tear, cX6_tear, 2, 0, rfl, rfl, ⟨by decide +kernel, by decide +kernel, by decide +kernel⟩, (xTs_in (tin_6 _ (List.mem_of_getElem? (i := 93) rfl)) rfl), (xTs_in (tin_6 _ (List.mem_of_getElem? (i := 94) rfl)) rfl), (xTs_in (tin_6 _ (List.mem_of_getElem? (i := 95) rfl)) rfl), (xTs_in (tin_1 _ (List.mem_of_getElem? (i := 6) rfl)) rfl), Or.inl ⟨5, rfl, by decide, _, _, rfl⟩⟩))
theorem tc_7_92 : Ptc 7 (199, 1, 113, 2, 5) := Or.inr (Or.inl (⟨rfl, by decide +kernel, yX5_count, cX5_count, 2, 1, rfl, rfl, ⟨by decide +kernel, by decide +kernel, by decide +kernel⟩, (xTs_in (tin_4 _ (List.mem_of_getElem? (i := 100) rfl)) rfl), (xTs_in (tin_4 _ (List.mem_of_getElem? (i := 101) rfl)) rfl), (xTs_in (tin_4 _ (List.mem_of_getElem? (i := 102) rfl)) rfl), (xTs_in (tin_1 _ (List.mem_of_getElem? (i := 1) rfl)) rfl), Or.inl ⟨4, rfl, by decide, _, _, rfl⟩⟩))
theorem tc_7_93 : Ptc 7 (202, 1, 217, 2, 6) := Or.inr (Or.inl (⟨rfl, by decide +kernel, yX6_count, cX6_count, 4, 1, rfl, rfl, ⟨by decide +kernel, by decide +kernel, by decide +kernel⟩, (xTs_in (tin_6 _ (List.mem_of_getElem? (i := 97) rfl)) rfl), (xTs_in (tin_6 _ (List.mem_of_getElem? (i := 98) rfl)) rfl), (xTs_in (tin_6 _ (List.mem_of_getElem? (i := 99) rfl)) rfl), (xTs_in (tin_1 _ (List.mem_of_getElem? (i := 6) rfl)) rfl), Or.inl ⟨5, rfl, by decide, _, _, rfl⟩⟩))
theorem tc_7_94 : Ptc 7 (203, 1, 114, 2, 5) := Or.inr (Or.inl (⟨rfl, by decide +kernel, yX5_status, cX5_status, 4, 1, rfl, rfl, ⟨by decide +kernel, by decide +kernel, by decide +kernel⟩, (xTs_in (tin_4 _ (List.mem_of_getElem? (i := 117) rfl)) rfl), (xTs_in (tin_4 _ (List.mem_of_getElem? (i := 118) rfl)) rfl), (xTs_in (tin_4 _ (List.mem_of_getElem? (i := 119) rfl)) rfl), (xTs_in (tin_1 _ (List.mem_of_getElem? (i := 1) rfl)) rfl), Or.inl ⟨4, rfl, by decide, _, _, rfl⟩⟩))
theorem tc_7_95 : Ptc 7 (206, 1, 218, 2, 6) := Or.inr (Or.inl (⟨rfl, by decide +kernel, yX6_status, cX6_status, 4, 1, rfl, rfl, ⟨by decide +kernel, by decide +kernel, by decide +kernel⟩, (xTs_in (tin_6 _ (List.mem_of_getElem? (i := 101) rfl)) rfl), (xTs_in (tin_6 _ (List.mem_of_getElem? (i := 102) rfl)) rfl), (xTs_in (tin_6 _ (List.mem_of_getElem? (i := 103) rfl)) rfl), (xTs_in (tin_1 _ (List.mem_of_getElem? (i := 6) rfl)) rfl), Or.inl ⟨5, rfl, by decide, _, _, rfl⟩⟩))
theorem tc_7 : ∀ e ∈ xCT.getD 7 [], Ptc 7 e := by
  show ∀ e ∈ [(9, 2, 231, 1, 5), (12, 2, 232, 1, 6), (13, 1, 68, 2, 5), (17, 1, 144, 2, 6), (18, 1, 69, 3, 5), (22, 1, 145, 3, 6), (23, 1, 70, 4, 5), (27, 1, 146, 4, 6), (28, 1, 71, 4, 5), (31, 1, 147, 4, 6), (32, 1, 72, 3, 5), (35, 1, 149, 3, 6), (36, 1, 73, 3, 5), (39, 1, 150, 3, 6), (40, 1, 74, 2, 5), (43, 1, 151, 2, 6), (44, 1, 75, 1, 5), (48, 1, 152, 1, 6), (49, 1, 76, 1, 5), (52, 1, 153, 1, 6), (53, 1, 77, 2, 5), (56, 1, 154, 2, 6), (57, 1, 78, 2, 5), (60, 1, 156, 2, 6), (61, 1, 79, 2, 5), (64, 1, 160, 2, 6), (65, 1, 80, 3, 5), (68, 1, 161, 3, 6), (69, 1, 81, 1, 5), (72, 1, 163, 1, 6), (73, 1, 82, 1, 5), (76, 1, 164, 1, 6), (77, 1, 83, 3, 5), (80, 1, 165, 3, 6), (81, 1, 84, 2, 5), (84, 1, 167, 2, 6), (85, 1, 85, 1, 5), (88, 1, 168, 1, 6), (89, 1, 86, 1, 5), (92, 1, 169, 1, 6), (93, 1, 87, 3, 5), (96, 1, 170, 3, 6), (97, 1, 88, 2, 5), (100, 1, 171, 2, 6), (101, 1, 89, 1, 5), (104, 1, 173, 1, 6), (105, 1, 90, 1, 5), (108, 1, 174, 1, 6), (109, 1, 91, 1, 5), (112, 1, 175, 1, 6), (113, 1, 92, 4, 5), (116, 1, 177, 4, 6), (117, 1, 93, 4, 5), (120, 1, 178, 4, 6), (121, 1, 94, 3, 5), (125, 1, 182, 3, 6), (126, 1, 95, 1, 5), (129, 1, 183, 1, 6), (130, 1, 96, 2, 5), (133, 1, 185, 2, 6), (134, 1, 97, 1, 5), (137, 1, 186, 1, 6), (138, 1, 98, 2, 5), (141, 1, 187, 2, 6), (142, 1, 99, 3, 5), (145, 1, 190, 3, 6), (146, 1, 100, 1, 5), (149, 1, 191, 1, 6), (150, 1, 101, 1, 5), (153, 1, 200, 1, 6), (154, 1, 102, 3, 5), (157, 1, 202, 3, 6), (158, 1, 103, 3, 5), (161, 1, 206, 3, 6), (162, 1, 104, 4, 5), (165, 1, 207, 4, 6), (166, 1, 105, 4, 5), (169, 1, 208, 4, 6), (170, 1, 106, 6, 5), (174, 1, 209, 6, 6), (175, 1, 107, 2, 5), (178, 1, 210, 2, 6), (179, 1, 108, 2, 5), (182, 1, 212, 2, 6), (183, 1, 109, 2, 5), (186, 1, 213, 2, 6), (187, 1, 110, 1, 5), (190, 1, 214, 1, 6), (191, 1, 111, 1, 5), (194, 1, 215, 1, 6), (195, 1, 112, 1, 5), (198, 1, 216, 1, 6), (199, 1, 113, 2, 5), (202, 1, 217, 2, 6), (203, 1, 114, 2, 5), (206, 1, 218, 2, 6)], Ptc 7 e
  exact List.forall_mem_cons.mpr ⟨tc_7_0, List.forall_mem_cons.mpr ⟨tc_7_1, List.forall_mem_cons.mpr ⟨tc_7_2, List.forall_mem_cons.mpr ⟨tc_7_3, List.forall_mem_cons.mpr ⟨tc_7_4, List.forall_mem_cons.mpr ⟨tc_7_5, List.forall_mem_cons.mpr ⟨tc_7_6, List.forall_mem_cons.mpr ⟨tc_7_7, List.forall_mem_cons.mpr ⟨tc_7_8, List.forall_mem_cons.mpr ⟨tc_7_9, List.forall_mem_cons.mpr ⟨tc_7_10, List.forall_mem_cons.mpr ⟨tc_7_11, List.forall_mem_cons.mpr ⟨tc_7_12, List.forall_mem_cons.mpr ⟨tc_7_13, List.forall_mem_cons.mpr ⟨tc_7_14, List.forall_mem_cons.mpr ⟨tc_7_15, List.forall_mem_cons.mpr ⟨tc_7_16, List.forall_mem_cons.mpr ⟨tc_7_17, List.forall_mem_cons.mpr ⟨tc_7_18, List.forall_mem_cons.mpr ⟨tc_7_19, List.forall_mem_cons.mpr ⟨tc_7_20, List.forall_mem_cons.mpr ⟨tc_7_21, List.forall_mem_cons.mpr ⟨tc_7_22, List.forall_mem_cons.mpr ⟨tc_7_23, List.forall_mem_cons.mpr ⟨tc_7_24, List.forall_mem_cons.mpr ⟨tc_7_25, List.forall_mem_cons.mpr ⟨tc_7_26, List.forall_mem_cons.mpr ⟨tc_7_27, List.forall_mem_cons.mpr ⟨tc_7_28, List.forall_mem_cons.mpr ⟨tc_7_29, List.forall_mem_cons.mpr ⟨tc_7_30, List.forall_mem_cons.mpr ⟨tc_7_31, List.forall_mem_cons.mpr ⟨tc_7_32, List.forall_mem_cons.mpr ⟨tc_7_33, List.forall_mem_cons.mpr ⟨tc_7_34, List.forall_mem_cons.mpr ⟨tc_7_35, List.forall_mem_cons.mpr ⟨tc_7_36, List.forall_mem_cons.mpr ⟨tc_7_37, List.forall_mem_cons.mpr ⟨tc_7_38, List.forall_mem_cons.mpr ⟨tc_7_39, List.forall_mem_cons.mpr ⟨tc_7_40, List.forall_mem_cons.mpr ⟨tc_7_41, List.forall_mem_cons.mpr ⟨tc_7_42, List.forall_mem_cons.mpr ⟨tc_7_43, List.forall_mem_cons.mpr ⟨tc_7_44, List.forall_mem_cons.mpr ⟨tc_7_45, List.forall_mem_cons.mpr ⟨tc_7_46, List.forall_mem_cons.mpr ⟨tc_7_47, List.forall_mem_cons.mpr ⟨tc_7_48, List.forall_mem_cons.mpr ⟨tc_7_49, List.forall_mem_cons.mpr ⟨tc_7_50, List.forall_mem_cons.mpr ⟨tc_7_51, List.forall_mem_cons.mpr ⟨tc_7_52, List.forall_mem_cons.mpr ⟨tc_7_53, List.forall_mem_cons.mpr ⟨tc_7_54, List.forall_mem_cons.mpr ⟨tc_7_55, List.forall_mem_cons.mpr ⟨tc_7_56, List.forall_mem_cons.mpr ⟨tc_7_57, List.forall_mem_cons.mpr ⟨tc_7_58, List.forall_mem_cons.mpr ⟨tc_7_59, List.forall_mem_cons.mpr ⟨tc_7_60, List.forall_mem_cons.mpr ⟨tc_7_61, List.forall_mem_cons.mpr ⟨tc_7_62, List.forall_mem_cons.mpr ⟨tc_7_63, List.forall_mem_cons.mpr ⟨tc_7_64, List.forall_mem_cons.mpr ⟨tc_7_65, List.forall_mem_cons.mpr ⟨tc_7_66, List.forall_mem_cons.mpr ⟨tc_7_67, List.forall_mem_cons.mpr ⟨tc_7_68, List.forall_mem_cons.mpr ⟨tc_7_69, List.forall_mem_cons.mpr ⟨tc_7_70, List.forall_mem_cons.mpr ⟨tc_7_71, List.forall_mem_cons.mpr ⟨tc_7_72, List.forall_mem_cons.mpr ⟨tc_7_73, List.forall_mem_cons.mpr ⟨tc_7_74, List.forall_mem_cons.mpr ⟨tc_7_75, List.forall_mem_cons.mpr ⟨tc_7_76, List.forall_mem_cons.mpr ⟨tc_7_77, List.forall_mem_cons.mpr ⟨tc_7_78, List.forall_mem_cons.mpr ⟨tc_7_79, List.forall_mem_cons.mpr ⟨tc_7_80, List.forall_mem_cons.mpr ⟨tc_7_81, List.forall_mem_cons.mpr ⟨tc_7_82, List.forall_mem_cons.mpr ⟨tc_7_83, List.forall_mem_cons.mpr ⟨tc_7_84, List.forall_mem_cons.mpr ⟨tc_7_85, List.forall_mem_cons.mpr ⟨tc_7_86, List.forall_mem_cons.mpr ⟨tc_7_87, List.forall_mem_cons.mpr ⟨tc_7_88, List.forall_mem_cons.mpr ⟨tc_7_89, List.forall_mem_cons.mpr ⟨tc_7_90, List.forall_mem_cons.mpr ⟨tc_7_91, List.forall_mem_cons.mpr ⟨tc_7_92, List.forall_mem_cons.mpr ⟨tc_7_93, List.forall_mem_cons.mpr ⟨tc_7_94, List.forall_mem_cons.mpr ⟨tc_7_95, fun _ h => absurd h List.not_mem_nil⟩⟩⟩⟩⟩⟩⟩⟩⟩⟩⟩⟩⟩⟩⟩⟩⟩⟩⟩⟩⟩⟩⟩⟩⟩⟩⟩⟩⟩⟩⟩⟩⟩⟩⟩⟩⟩⟩⟩⟩⟩⟩⟩⟩⟩⟩⟩⟩⟩⟩⟩⟩⟩⟩⟩⟩⟩⟩⟩⟩⟩⟩⟩⟩⟩⟩⟩⟩⟩⟩⟩⟩⟩⟩⟩⟩⟩⟩⟩⟩⟩⟩⟩⟩⟩⟩⟩⟩⟩⟩⟩⟩⟩⟩⟩⟩
theorem tc_8 : ∀ e ∈ xCT.getD 8 [], Ptc 8 e := fun _ h => absurd h List.not_mem_nil
theorem tc_9 : ∀ e ∈ xCT.getD 9 [], Ptc 9 e := fun _ h => absurd h List.not_mem_nil
theorem tc_10_0 : Ptc 10 (335, 1, 222, 1, 101) := Or.inr (Or.inl (⟨rfl, by decide +kernel, yJ0_coder_7d493, cJ0_coder_7d493, 1, 0, rfl, rfl, ⟨by decide +kernel, by decide +kernel, by decide +kernel⟩, (xTs_in (tin_3 _ (List.mem_of_getElem? (i := 175) rfl)) rfl), (xTs_in (tin_3 _ (List.mem_of_getElem? (i := 176) rfl)) rfl), (xTs_in (tin_3 _ (List.mem_of_getElem? (i := 177) rfl)) rfl), (xTs_in (tin_1 _ (List.mem_of_getElem? (i := 11) rfl)) rfl), Or.inr ⟨rfl, rfl⟩⟩))
theorem tc_10_1 : Ptc 10 (492, 1, 223, 1, 101) := Or.inr (Or.inl (⟨rfl, by decide +kernel, yJ0_isLatin1_aae02, cJ0_isLatin1_aae02, 1, 0, rfl, rfl, ⟨by decide +kernel, by decide +kernel, by decide +kernel⟩, (xTs_in (tin_3 _ (List.mem_of_getElem? (i := 185) rfl)) rfl), (xTs_in (tin_3 _ (List.mem_of_getElem? (i := 186) rfl)) rfl), (xTs_in (tin_3 _ (List.mem_of_getElem? (i := 187) rfl)) rfl), (xTs_in (tin_1 _ (List.mem_of_getElem? (i := 11) rfl)) rfl), Or.inr ⟨rfl, rfl⟩⟩))
theorem tc_10_2 : Ptc 10 (495, 0, 225, 2, 0) := Or.inl (⟨rfl, by decide +kernel, rfl, yJ1_charAt_3b067, cJ1_charAt_3b067, 2, rfl, ⟨by decide +kernel, by decide +kernel, by decide +kernel⟩, (xTs_in (tin_3 _ (List.mem_of_getElem? (i := 190) rfl)) rfl), (xTs_in (tin_1 _ (List.mem_of_getElem? (i := 12) rfl)) rfl), Or.inl (xTs_in (tin_3 _ (List.mem_of_getElem? (i := 189) rfl)) rfl)⟩)
theorem tc_10_3 : Ptc 10 (1059, 0, 226, 3, 0) := Or.inl (⟨rfl, by decide +kernel, rfl, yJ3_checkIndex_8e157, cJ3_checkIndex_8e157, 3, rfl, ⟨by decide +kernel, by decide +kernel, by decide +kernel⟩, (xTs_in (tin_3 _ (List.mem_of_getElem? (i := 198) rfl)) rfl), (xTs_in (tin_1 _ (List.mem_of_getElem? (i := 13) rfl)) rfl), Or.inl (xTs_in (tin_3 _ (List.mem_of_getElem? (i := 197) rfl)) rfl)⟩)
theorem tc_10 : ∀ e ∈ xCT.getD 10 [], Ptc 10 e := by
  show ∀ e ∈ [(335, 1, 222, 1, 101), (492, 1, 223, 1, 101), (495, 0, 225, 2, 0), (1059, 0, 226, 3, 0)], Ptc 10 e
  exact List.forall_mem_cons.mpr ⟨tc_10_0, List.forall_mem_cons.mpr ⟨tc_10_1, List.forall_mem_cons.mpr ⟨tc_10_2, List.forall_mem_cons.mpr ⟨tc_10_3, fun _ h => absurd h List.not_mem_nil⟩⟩⟩⟩
theorem tc_11_0 : Ptc 11 (9, 0, 224, 2, 0) := Or.inl (⟨rfl, by decide +kernel, rfl, yJ0_checkIndex_df160, cJ0_checkIndex_df160, 2, rfl, ⟨by decide +kernel, by decide +kernel, by decide +kernel⟩, (xTs_in (tin_3 _ (List.mem_of_getElem? (i := 193) rfl)) rfl), (xTs_in (tin_1 _ (List.mem_of_getElem? (i := 11) rfl)) rfl), Or.inl (xTs_in (tin_3 _ (List.mem_of_getElem? (i := 192) rfl)) rfl)⟩)
theorem tc_11 : ∀ e ∈ xCT.getD 11 [], Ptc 11 e := by
  show ∀ e ∈ [(9, 0, 224, 2, 0)], Ptc 11 e
  exact List.forall_mem_cons.mpr ⟨tc_11_0, fun _ h => absurd h List.not_mem_nil⟩
theorem tc_12 : ∀ e ∈ xCT.getD 12 [], Ptc 12 e := fun _ h => absurd h List.not_mem_nil
theorem tc_all : ∀ (own : Nat) e, e ∈ xCT.getD own [] → Ptc own e := by
  intro own e h
  match own, h with
  | 0, h => exact tc_0 e h
  | 1, h => exact tc_1 e h
  | 2, h => exact tc_2 e h
  | 3, h => exact tc_3 e h
  | 4, h => exact tc_4 e h
  | 5, h => exact tc_5 e h
  | 6, h => exact tc_6 e h
  | 7, h => exact tc_7 e h
  | 8, h => exact tc_8 e h
  | 9, h => exact tc_9 e h
  | 10, h => exact tc_10 e h
  | 11, h => exact tc_11 e h
  | 12, h => exact tc_12 e h
  | n + 13, h => exact absurd h List.not_mem_nil
theorem t_C1 : xTC1 xYL := fun own idx kind k n rcv h => tc_all own _ (xfind_mem h)
theorem t_all : xTab xYL := ⟨t_F1, t_F2, t_K1, t_G1, t_N1, t_W1, t_C1, t_M1⟩
end
