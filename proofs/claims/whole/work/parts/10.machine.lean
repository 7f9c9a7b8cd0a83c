/-! THE ABSTRACT MACHINE: runs the bytecode over a memory of numbers; what it answers, the machine answers (80.sound) -/
abbrev xM : Type := Nat → Nat → Int32
abbrev xO : Type := List (Nat × (Nat → Int32))
abbrev xSh : Type := (Nat × List Nat) ⊕ (Bool × Nat)
abbrev xS : Type := List xSh
abbrev xL : Type := List (Nat × Value)
abbrev xX : Type := Nat × (Nat → Int32)
/-- an instruction's row: place, instruction, length, target, constant, cases -/
abbrev xEn : Type := Nat × Instr × Nat × Nat × Int32 × List (Int32 × Nat)
/-- a method: its class, its code in chunks of 32 bytes, labels, what it answers, is it a constructor -/
abbrev xT : Type := Nat × List (List xEn) × List (Nat × List Nat × List Nat × List Nat) × Option FieldType × Bool × Nat
abbrev xC : Type := Nat × xL × List Value × xS × xO × Int64
abbrev xOut : Type := Option Value × xS × xO × Int64
abbrev xAc : Type := xOut ⊕ ((Nat × List Value × xC) ⊕ xC)
/-- tables that say what a constant pool's places mean -/
abbrev xTF : Type := List (List (Nat × Nat × Nat × FieldType × Bool))
abbrev xTC : Type := List (List (Nat × Nat × Nat × Nat × Nat))
abbrev xTK : Type := List (List (Nat × Value))
abbrev xTN : Type := List (List (Nat × Nat × List Nat))
/-- all tables: methods, fields, calls, constants, statics, news, static arrays, texts, the long field's place -/
abbrev xP : Type := List xT × xTF × xTC × xTK × xTK × xTN × List (List Int32) × List (List Int32) × Nat

def xfind {α : Type} : List (Nat × α) → Nat → Option α
  | [], _ => none
  | (j, a) :: l, i => bif Nat.beq j i then some a else xfind l i
def xnth {α : Type} : List α → Nat → Option α
  | [], _ => none
  | a :: _, 0 => some a
  | _ :: l, i + 1 => xnth l i
def xget : xO → xM → Nat → (Nat → Int32)
  | [], σ, c => σ c
  | (j, f) :: l, σ, c => bif Nat.beq j c then f else xget l σ c
def xset : xO → Nat → (Nat → Int32) → xO
  | [], c, f => [(c, f)]
  | (j, g) :: l, c, f => bif Nat.beq j c then (c, f) :: l else bif Nat.ble j c then (j, g) :: xset l c f else (c, f) :: (j, g) :: l
def xmrg : xO → xO → xO
  | o, [] => o
  | o, (c, f) :: l => xset (xmrg o l) c f
def xdf (c : Nat) (f : Nat → Int32) : Nat → Int32 := bif Nat.beq (c % 100) 0 then f else (fun _ => f 0)
def xaddI (K : xO → xO) (σ : xM) (c : Nat) : xO → xO
  | [] => (c, xdf c (σ c)) :: K []
  | (j, g) :: o => bif Nat.beq j c then (j, g) :: K o else bif Nat.ble j c then (j, g) :: xaddI K σ c o else (c, xdf c (xget ((j, g) :: o) σ c)) :: K ((j, g) :: o)
def xadd (σ : xM) : List Nat → xO → xO
  | [], o => o
  | c :: cs, o => xaddI (xadd σ cs) σ c o
def xlins : xL → Nat → Value → xL
  | [], i, v => [(i, v)]
  | (j, w) :: l, i, v => bif Nat.ble j i then (j, w) :: xlins l i v else (i, v) :: (j, w) :: l
def xls1 (lv : xL) (i : Nat) (v : Value) : xL := xlins (lv.filter (fun q => !(q.1 == i) && !(q.1 + 1 == i && q.2.category == 2))) i v
def xls2 (lv : xL) (i : Nat) (v : Value) : xL := xlins (lv.filter (fun q => !(q.1 == i) && (!(q.1 == i + 1) && !(q.1 + 1 == i && q.2.category == 2)))) i v
def xmem : List Nat → Nat → Bool
  | [], _ => false
  | j :: l, i => bif Nat.beq j i then true else xmem l i
def xkeep : xL → List Nat → xL
  | [], _ => []
  | (j, v) :: l, ks => bif xmem ks j then (j, v) :: xkeep l ks else xkeep l ks
/-- a label's cells that are told by the local that holds the array -/
def xaddr (σ : xM) (lv : xL) : List Nat → xO → xO
  | [], o => o
  | j :: l, o => match xfind lv j with
    | some (.ref q) => xaddr σ lv l (xadd σ [100 * q] o)
    | _ => xaddr σ lv l o
abbrev inr (i : Int32) (n : Nat) : Prop := 0 ≤ i.toInt ∧ i.toInt < (n : Int)
def xb (b : Bool) : Int32 := bif b then 1 else 0
/-- the label of a place, if it has one -/
def xnx (M : xT) (pc : Nat) : Nat := bif (xfind M.2.2.1 pc).isSome then pc + 100000 else pc
def xgt (M : xT) (pc : Nat) (lv : xL) (st : List Value) (sh : xS) (ol : xO) (lg : Int64) : Option xAc := some (.inr (.inr (xnx M pc, lv, st, sh, ol, lg)))
def xbr (M : xT) (cd : Jvm.ClassFile.Cond) (x y : Int32) (a b : Nat) : Nat := match cd with
  | .eq => if x = y then xnx M a else xnx M b
  | .ne => if x = y then xnx M b else xnx M a
  | .lt => if x < y then xnx M a else xnx M b
  | .ge => if y ≤ x then xnx M a else xnx M b
  | .gt => if y < x then xnx M a else xnx M b
  | .le => if x ≤ y then xnx M a else xnx M b
def xsw (M : xT) : List (Int32 × Nat) → Nat → Int32 → Nat
  | [], d, _ => xnx M d
  | (v, t) :: l, d, x => if x = v then xnx M t else xsw M l d x
/-- an array of ints or chars: is it of chars, its length, what it holds -/
def xarr (P : xP) (X : xX) (σ : xM) (sh : xS) (ol : xO) : Value → Option (Nat × Nat × (Nat → Int32))
  | .ref q => bif Nat.ble q 899 then (match xnth sh q with
      | some (.inr (ch, n)) => some (bif ch then 1 else 0, n, xget ol σ (100 * q))
      | _ => none)
    else bif Nat.beq q 900 then some (0, X.1, X.2)
    else (match xnth P.2.2.2.2.2.2.1 (q - 1000) with
      | some l => some (0, l.length, fun j => l.getD j 0)
      | none => none)
  | .float b => some (2, (P.2.2.2.2.2.2.2.1.getD (b.toNat % P.2.2.2.2.2.2.2.1.length) []).length, fun j => (P.2.2.2.2.2.2.2.1.getD (b.toNat % P.2.2.2.2.2.2.2.1.length) []).getD j 0)
  | _ => none
def xaload (P : xP) (M : xT) (X : xX) (σ : xM) (kd : Nat) (pc : Nat) (lv : xL) (sh : xS) (ol : xO) (lg : Int64) : List Value → Option xAc
  | .int i :: v :: r => match xarr P X σ sh ol v with
    | some (k, n, f) => bif Nat.beq k kd then (if inr i n then xgt M pc lv (.int (f i.toNatClampNeg) :: r) sh ol lg else none) else none
    | none => none
  | _ => none
def xnar (kd : Nat) (x : Int32) : Int32 := bif Nat.beq kd 1 then vp_nar .char x else x
def xastore (M : xT) (σ : xM) (kd : Nat) (pc : Nat) (lv : xL) (sh : xS) (ol : xO) (lg : Int64) : List Value → Option xAc
  | .int x :: .int i :: .ref q :: r => bif Nat.ble q 899 then (match xnth sh q with
    | some (.inr (ch, n)) => bif Nat.beq (bif ch then 1 else 0) kd then (if inr i n then xgt M pc lv r sh (xset ol (100 * q) (upd (xget ol σ (100 * q)) i.toNatClampNeg (xnar kd x))) lg else none) else none
    | _ => none) else none
  | _ => none
def xgetf (P : xP) (M : xT) (σ : xM) (idx pc : Nat) (lv : xL) (sh : xS) (ol : xO) (lg : Int64) (st : List Value) : Option xAc := match xfind (P.2.1.getD M.1 []) idx with
  | some (ci, k, _, _) => (match st with
    | .ref q :: r => bif Nat.ble q 899 then (match xnth sh q with
      | some (.inl (ci', tags)) => bif Nat.beq ci' ci then (match xnth tags k with
        | some 0 => xgt M pc lv (.int (xget ol σ (100 * q + k + 1) 0) :: r) sh ol lg
        | some 1 => bif Nat.beq (100 * q + k + 1) P.2.2.2.2.2.2.2.2 then xgt M pc lv (.long lg :: r) sh ol lg else none
        | some 2 => none
        | some (t + 3) => bif Nat.ble t 899 then xgt M pc lv (.ref t :: r) sh ol lg else none
        | none => none) else none
      | _ => none) else none
    | .retAddr w :: r => bif Nat.beq ci 100 then (bif Nat.beq k 0 then xgt M pc lv (.float (UInt32.ofNat (w % 4096)) :: r) sh ol lg else xgt M pc lv (.int 0 :: r) sh ol lg) else none
    | _ => none)
  | none => none
def xputf (P : xP) (M : xT) (σ : xM) (idx pc : Nat) (lv : xL) (sh : xS) (ol : xO) (lg : Int64) (st : List Value) : Option xAc := match xfind (P.2.1.getD M.1 []) idx with
  | some (ci, k, ty, fin) => bif !fin || (M.2.2.2.2.1 && Nat.beq M.1 (ci + 1)) then (match st with
    | v :: .ref q :: r => bif Nat.ble q 899 then (match xnth sh q with
      | some (.inl (ci', tags)) => bif Nat.beq ci' ci then (match xnth tags k, v, ty with
        | some 0, .int x, .int => xgt M pc lv r sh (xset ol (100 * q + k + 1) (fun _ => x)) lg
        | some 0, .int x, .boolean => if x = 0 ∨ x = 1 then xgt M pc lv r sh (xset ol (100 * q + k + 1) (fun _ => x)) lg else none
        | some 1, .long x, .long => bif Nat.beq (100 * q + k + 1) P.2.2.2.2.2.2.2.2 then xgt M pc lv r sh ol x else none
        | some 2, .ref t, .object _ => bif Nat.ble t 899 then xgt M pc lv r (sh.set q (.inl (ci, tags.set k (t + 3)))) ol lg else none
        | some 2, .ref t, .array _ => bif Nat.ble t 899 then xgt M pc lv r (sh.set q (.inl (ci, tags.set k (t + 3)))) ol lg else none
        | _, _, _ => none) else none
      | _ => none) else none
    | _ => none) else none
  | none => none
/-- cells of a new object: its numbers are 0 -/
def xzero (q : Nat) : Nat → List Nat → xO → xO
  | _, [], o => o
  | k, t :: l, o => xzero q (k + 1) l (bif Nat.beq t 0 then xset o (100 * q + k + 1) (fun _ => 0) else o)
def xmax (x y : Int32) : Int32 := if x < y then y else x
def xmin (x y : Int32) : Int32 := if y < x then y else x
def xmaxl (x y : Int64) : Int64 := if y < x then x else y
def xcat (st : List Value) : Nat := (st.map fun v => v.category).sum
def xcallA (P : xP) (M : xT) (σ : xM) (kd idx pc : Nat) (lv : xL) (sh : xS) (ol : xO) (lg : Int64) (st : List Value) : Option xAc := match xfind (P.2.2.1.getD M.1 []) idx with
  | some (kind, k', n, rcv) => bif Nat.beq kind kd then (
      bif Nat.beq kd 3 then (match st with
        | .int n :: .int dp :: .ref q1 :: .int sp :: .ref q0 :: r => bif Nat.ble q0 899 && (Nat.ble q1 899 && Nat.ble (xcat r) 8) then (match xnth sh q0, xnth sh q1 with
          | some (.inr (false, n0)), some (.inr (false, n1)) => if 0 ≤ sp.toInt ∧ 0 ≤ dp.toInt ∧ 0 ≤ n.toInt ∧ sp.toInt + n.toInt ≤ (n0 : Int) ∧ dp.toInt + n.toInt ≤ (n1 : Int) then
              xgt M pc lv r sh (xset ol (100 * q1) (va_cpy (xget ol σ (100 * q0)) (xget ol σ (100 * q1)) sp.toNatClampNeg dp.toNatClampNeg n.toNatClampNeg)) lg else none
          | _, _ => none) else none
        | _ => none)
      else bif Nat.beq kd 4 then (match st with
        | .ref q :: r => bif Nat.ble q 899 && Nat.ble (xcat r) 8 then xgt M pc lv r sh ol lg else none
        | _ => none)
      else bif Nat.beq kd 5 then (match st with
        | .int y :: .int x :: r => bif Nat.ble (xcat r) 8 then xgt M pc lv (.int (xmax x y) :: r) sh ol lg else none
        | _ => none)
      else bif Nat.beq kd 6 then (match st with
        | .int y :: .int x :: r => bif Nat.ble (xcat r) 8 then xgt M pc lv (.int (xmin x y) :: r) sh ol lg else none
        | _ => none)
      else bif Nat.beq kd 7 then (match st with
        | .long y :: .long x :: r => bif Nat.ble (xcat r) 8 then xgt M pc lv (.long (xmaxl x y) :: r) sh ol lg else none
        | _ => none)
      else bif Nat.ble n st.length && Nat.ble (xcat (st.drop n)) 8 then
        (bif (match (st.drop (n - 1)), rcv with
          | _, 0 => true
          | .ref q :: _, c + 1 => Nat.ble q 899 && (match xnth sh q with
            | some (.inl (ci', _)) => Nat.beq ci' c
            | _ => false)
          | .retAddr _ :: _, c + 1 => Nat.beq c 100
          | _, _ => false) then some (.inr (.inl (k', (st.take n).reverse, (xnx M pc, lv, st.drop n, sh, ol, lg)))) else none)
      else none) else none
  | none => none
def xret (M : xT) (sh : xS) (ol : xO) (lg : Int64) (r : Option Value) : Option xAc := some (.inl (r, sh, ol, lg))
def xirem (x y : Int32) : Int32 := x - x / y * y
def xlrem (x y : Int64) : Int64 := x - x / y * y
def xush (x y : Int32) : Int32 := (x.toUInt32 >>> (y.toUInt32 &&& Int32.toUInt32 31)).toInt32
def xshl (x y : Int32) : Int32 := x <<< (y &&& 31)
def xshr (x y : Int32) : Int32 := x >>> (y &&& 31)
def xi2c (x : Int32) : Int32 := (x.toUInt32 % 65536).toInt32
def xi2b (x : Int32) : Int32 := x.toInt8.toInt32
def xi2s (x : Int32) : Int32 := x.toInt16.toInt32
def xin2 (M : xT) (f : Int32 → Int32 → Int32) (pc : Nat) (lv : xL) (sh : xS) (ol : xO) (lg : Int64) : List Value → Option xAc
  | .int y :: .int x :: r => xgt M pc lv (.int (f x y) :: r) sh ol lg
  | _ => none
def xin1 (M : xT) (f : Int32 → Int32) (pc : Nat) (lv : xL) (sh : xS) (ol : xO) (lg : Int64) : List Value → Option xAc
  | .int x :: r => xgt M pc lv (.int (f x) :: r) sh ol lg
  | _ => none
def xln2 (M : xT) (f : Int64 → Int64 → Int64) (pc : Nat) (lv : xL) (sh : xS) (ol : xO) (lg : Int64) : List Value → Option xAc
  | .long y :: .long x :: r => xgt M pc lv (.long (f x y) :: r) sh ol lg
  | _ => none
def xind (M : xT) (f : Int32 → Int32 → Int32) (pc : Nat) (lv : xL) (sh : xS) (ol : xO) (lg : Int64) : List Value → Option xAc
  | .int y :: .int x :: r => if y = 0 then none else xgt M pc lv (.int (f x y) :: r) sh ol lg
  | _ => none
def xlnd (M : xT) (f : Int64 → Int64 → Int64) (pc : Nat) (lv : xL) (sh : xS) (ol : xO) (lg : Int64) : List Value → Option xAc
  | .long y :: .long x :: r => if y = 0 then none else xgt M pc lv (.long (f x y) :: r) sh ol lg
  | _ => none
/-- a load of a local: of kind 0 int, 1 long, 2 reference -/
def xld (M : xT) (kd i pc : Nat) (lv : xL) (st : List Value) (sh : xS) (ol : xO) (lg : Int64) : Option xAc := match xfind lv i, kd with
  | some (.int x), 0 => xgt M pc lv (.int x :: st) sh ol lg
  | some (.long x), 1 => xgt M pc lv (.long x :: st) sh ol lg
  | some (.ref q), 2 => xgt M pc lv (.ref q :: st) sh ol lg
  | some (.retAddr q), 2 => xgt M pc lv (.retAddr q :: st) sh ol lg
  | some (.float q), 2 => xgt M pc lv (.float q :: st) sh ol lg
  | _, _ => none
def xst (M : xT) (kd i pc : Nat) (lv : xL) (sh : xS) (ol : xO) (lg : Int64) (st : List Value) : Option xAc := match st, kd with
  | .int x :: r, 0 => xgt M pc (xls1 lv i (.int x)) r sh ol lg
  | .long x :: r, 1 => xgt M pc (xls2 lv i (.long x)) r sh ol lg
  | .ref q :: r, 2 => xgt M pc (xls1 lv i (.ref q)) r sh ol lg
  | _, _ => none
def xexec (P : xP) (M : xT) (X : xX) (σ : xM) (i : Instr) (tgt : Nat) (cv : Int32) (cs : List (Int32 × Nat)) (pc : Nat) (lv : xL) (st : List Value) (sh : xS) (ol : xO) (lg : Int64) : Option xAc :=
  match i with
  | .aload j => xld M 2 j pc lv st sh ol lg
  | .aload_n j => xld M 2 j pc lv st sh ol lg
  | .iload j => xld M 0 j pc lv st sh ol lg
  | .iload_n j => xld M 0 j pc lv st sh ol lg
  | .lload j => xld M 1 j pc lv st sh ol lg
  | .lload_n j => xld M 1 j pc lv st sh ol lg
  | .astore j => xst M 2 j pc lv sh ol lg st
  | .astore_n j => xst M 2 j pc lv sh ol lg st
  | .istore j => xst M 0 j pc lv sh ol lg st
  | .istore_n j => xst M 0 j pc lv sh ol lg st
  | .lstore j => xst M 1 j pc lv sh ol lg st
  | .lstore_n j => xst M 1 j pc lv sh ol lg st
  | .iconst _ => xgt M pc lv (.int cv :: st) sh ol lg
  | .bipush _ => xgt M pc lv (.int cv :: st) sh ol lg
  | .sipush _ => xgt M pc lv (.int cv :: st) sh ol lg
  | .lconst n => xgt M pc lv (.long (Int64.ofNat n) :: st) sh ol lg
  | .ldc j => (match xfind (P.2.2.2.1.getD M.1 []) j with
    | some (.int x) => xgt M pc lv (.int x :: st) sh ol lg
    | some (.retAddr w) => xgt M pc lv (.retAddr w :: st) sh ol lg
    | _ => none)
  | .ldc_w j => (match xfind (P.2.2.2.1.getD M.1 []) j with
    | some (.int x) => xgt M pc lv (.int x :: st) sh ol lg
    | _ => none)
  | .ldc2_w j => (match xfind (P.2.2.2.1.getD M.1 []) j with
    | some (.long x) => xgt M pc lv (.long x :: st) sh ol lg
    | _ => none)
  | .iadd => xin2 M (fun x y => x + y) pc lv sh ol lg st
  | .isub => xin2 M (fun x y => x - y) pc lv sh ol lg st
  | .imul => xin2 M (fun x y => x * y) pc lv sh ol lg st
  | .iand => xin2 M (fun x y => x &&& y) pc lv sh ol lg st
  | .ior => xin2 M (fun x y => x ||| y) pc lv sh ol lg st
  | .ixor => xin2 M (fun x y => x ^^^ y) pc lv sh ol lg st
  | .ishl => xin2 M xshl pc lv sh ol lg st
  | .ishr => xin2 M xshr pc lv sh ol lg st
  | .iushr => xin2 M xush pc lv sh ol lg st
  | .idiv => xind M (fun x y => x / y) pc lv sh ol lg st
  | .irem => xind M xirem pc lv sh ol lg st
  | .ineg => xin1 M (fun x => -x) pc lv sh ol lg st
  | .i2b => xin1 M xi2b pc lv sh ol lg st
  | .i2s => xin1 M xi2s pc lv sh ol lg st
  | .i2c => xin1 M xi2c pc lv sh ol lg st
  | .i2l => (match st with
    | .int x :: r => xgt M pc lv (.long x.toInt64 :: r) sh ol lg
    | _ => none)
  | .l2i => (match st with
    | .long x :: r => xgt M pc lv (.int x.toInt32 :: r) sh ol lg
    | _ => none)
  | .ladd => xln2 M (fun x y => x + y) pc lv sh ol lg st
  | .lsub => xln2 M (fun x y => x - y) pc lv sh ol lg st
  | .lmul => xln2 M (fun x y => x * y) pc lv sh ol lg st
  | .ldiv => xlnd M (fun x y => x / y) pc lv sh ol lg st
  | .lrem => xlnd M xlrem pc lv sh ol lg st
  | .lcmp => (match st with
    | .long y :: .long x :: r => xgt M pc lv (.int (lg_cmp x y) :: r) sh ol lg
    | _ => none)
  | .iinc j _ => (match xfind lv j with
    | some (.int x) => xgt M pc (xls1 lv j (.int (x + cv))) st sh ol lg
    | _ => none)
  | .pop => (match st with
    | v :: r => bif Nat.beq v.category 1 then xgt M pc lv r sh ol lg else none
    | _ => none)
  | .dup => (match st with
    | v :: r => bif Nat.beq v.category 1 then xgt M pc lv (v :: v :: r) sh ol lg else none
    | _ => none)
  | .dup2 => (match st with
    | v :: w :: r => bif Nat.beq v.category 1 && Nat.beq w.category 1 then xgt M pc lv (v :: w :: v :: w :: r) sh ol lg else none
    | _ => none)
  | .goto _ => xgt M tgt lv st sh ol lg
  | .ifCond cd _ => (match st with
    | .int x :: r => some (.inr (.inr (xbr M cd x 0 tgt pc, lv, r, sh, ol, lg)))
    | _ => none)
  | .if_icmp cd _ => (match st with
    | .int y :: .int x :: r => some (.inr (.inr (xbr M cd x y tgt pc, lv, r, sh, ol, lg)))
    | _ => none)
  | .tableswitch _ _ _ _ => (match st with
    | .int x :: r => some (.inr (.inr (xsw M cs tgt x, lv, r, sh, ol, lg)))
    | _ => none)
  | .getfield j => xgetf P M σ j pc lv sh ol lg st
  | .putfield j => xputf P M σ j pc lv sh ol lg st
  | .getstatic j => (match xfind (P.2.2.2.2.1.getD M.1 []) j with
    | some v => xgt M pc lv (v :: st) sh ol lg
    | none => none)
  | .iaload => xaload P M X σ 0 pc lv sh ol lg st
  | .caload => xaload P M X σ 1 pc lv sh ol lg st
  | .baload => xaload P M X σ 2 pc lv sh ol lg st
  | .iastore => xastore M σ 0 pc lv sh ol lg st
  | .castore => xastore M σ 1 pc lv sh ol lg st
  | .arraylength => (match st with
    | v :: r => (match xarr P X σ sh ol v with
      | some (_, n, _) => xgt M pc lv (.int (nI n) :: r) sh ol lg
      | none => none)
    | _ => none)
  | .newarray aty => (match st, aty with
    | .int n :: r, .int => if (0 ≤ n.toInt ∧ n.toInt ≤ 65536) ∧ sh.length ≤ 899 then xgt M pc lv (.ref sh.length :: r) (sh ++ [.inr (false, n.toNatClampNeg)]) (xset ol (100 * sh.length) (fun _ => 0)) lg else none
    | .int n :: r, .char => if (0 ≤ n.toInt ∧ n.toInt ≤ 65536) ∧ sh.length ≤ 899 then xgt M pc lv (.ref sh.length :: r) (sh ++ [.inr (true, n.toNatClampNeg)]) (xset ol (100 * sh.length) (fun _ => 0)) lg else none
    | _, _ => none)
  | .new j => (match xfind (P.2.2.2.2.2.1.getD M.1 []) j with
    | some (ci, tags) => bif Nat.ble sh.length 899 && (!(xmem tags 1) || Nat.ble (100 * sh.length) P.2.2.2.2.2.2.2.2) then xgt M pc lv (.ref sh.length :: st) (sh ++ [.inl (ci, tags)]) (xzero sh.length 0 tags ol) (bif xmem tags 1 then 0 else lg) else none
    | none => none)
  | .invokestatic j => (match xfind (P.2.2.1.getD M.1 []) j with
    | some (kind, _, _, _) => bif Nat.beq kind 4 || (Nat.beq kind 1 || Nat.beq kind 2) then none else xcallA P M σ kind j pc lv sh ol lg st
    | none => none)
  | .invokevirtual j => xcallA P M σ 1 j pc lv sh ol lg st
  | .invokespecial j => (match xfind (P.2.2.1.getD M.1 []) j with
    | some (kind, _, _, _) => bif Nat.beq kind 4 || Nat.beq kind 2 then xcallA P M σ kind j pc lv sh ol lg st else none
    | none => none)
  | .return_ => (match st, M.2.2.2.1 with
    | [], none => xret M sh ol lg none
    | _, _ => none)
  | .ireturn => (match st, M.2.2.2.1 with
    | [.int x], some .int => xret M sh ol lg (some (.int x))
    | [.int x], some .boolean => if x = 0 ∨ x = 1 then xret M sh ol lg (some (.int x)) else none
    | [.int x], some .byte => if vp_nar .byte x = x then xret M sh ol lg (some (.int x)) else none
    | [.int x], some .char => if vp_nar .char x = x then xret M sh ol lg (some (.int x)) else none
    | _, _ => none)
  | .lreturn => (match st, M.2.2.2.1 with
    | [.long x], some .long => xret M sh ol lg (some (.long x))
    | _, _ => none)
  | .areturn => (match st, M.2.2.2.1 with
    | [.retAddr w], some (.object _) => xret M sh ol lg (some (.retAddr w))
    | _, _ => none)
  | _ => none
def xact (P : xP) (M : xT) (X : xX) (σ : xM) : xC → Option xAc
  | (pc, lv, st, sh, ol, lg) => bif Nat.ble 100000 pc then (match xfind M.2.2.1 (pc - 100000) with
      | some (ks, cs, rs) => some (.inr (.inr (pc - 100000, xkeep lv ks, st, sh, xadd σ cs (xaddr σ lv rs ol), lg)))
      | none => none)
    else (match xnth M.2.1 (pc / 32) with
      | some ch => (match xfind ch pc with
        | some (i, ln, tgt, cv, cs) => xexec P M X σ i tgt cv cs (pc + ln) lv st sh ol lg
        | none => none)
      | none => none)
abbrev xOrc : Type := Nat → List Value → xS → Int64 → xM → Option xOut
def xgo (P : xP) (orc : xOrc) (M : xT) (X : xX) (σ : xM) : Nat → xC → Option xOut
  | 0, _ => none
  | n + 1, c => match xact P M X σ c with
    | none => none
    | some (.inl o) => some o
    | some (.inr (.inl (k, as, pc, lv, st, sh, ol, lg))) => (match orc k as sh lg (xget ol σ) with
      | none => none
      | some (r, sh', ol', lg') => xgo P orc M X σ n (pc, lv, r.toList ++ st, sh', xmrg ol ol', lg'))
    | some (.inr (.inr c')) => xgo P orc M X σ n c'
def xcall (P : xP) (X : xX) : Nat → Nat → xOrc
  | 0, _ => fun _ _ _ _ _ => none
  | d + 1, N => fun k as sh lg σ => match xnth P.1 k with
    | none => none
    | some M => bif Nat.ble (xcat as) M.2.2.2.2.2 then xgo P (xcall P X d N) M X σ N (0, lv_args 0 as, [], sh, [], lg) else none
def EM (P : xP) (X : xX) (d k : Nat) (as : List Value) (sh : xS) (lg : Int64) (σ : xM) (out : xOut) : Prop := ∃ N, xcall P X d N k as sh lg σ = some out
def E (P : xP) (X : xX) (d : Nat) (M : xT) (σ : xM) (c : xC) (out : xOut) : Prop := ∃ N n, xgo P (xcall P X d N) M X σ n c = some out
def xOrcLe (o o' : xOrc) : Prop := ∀ k as sh lg σ out, o k as sh lg σ = some out → o' k as sh lg σ = some out
theorem xgo_mono {P : xP} {o o' : xOrc} {M : xT} {X : xX} {σ : xM} (h : xOrcLe o o') : ∀ (n m : Nat), n ≤ m → ∀ (c : xC) (out : xOut), xgo P o M X σ n c = some out → xgo P o' M X σ m c = some out := by
  intro n
  induction n with
  | zero => intro m _ c out h; simp [xgo] at h
  | succ n ih =>
    intro m hm c out hr
    cases m with
    | zero => omega
    | succ m =>
      rw [xgo] at hr ⊢
      split at hr
      · simp at hr
      · exact hr
      · split at hr
        · simp at hr
        · rename_i h1
          rw [h _ _ _ _ _ _ h1]
          exact ih m (by omega) _ _ hr
      · exact ih m (by omega) _ _ hr
theorem xcall_mono {P : xP} {X : xX} : ∀ (d d' N N' : Nat), d ≤ d' → N ≤ N' → xOrcLe (xcall P X d N) (xcall P X d' N') := by
  intro d
  induction d with
  | zero => intro d' N N' _ _ k as sh lg σ out h; simp [xcall] at h
  | succ d ih =>
    intro d' N N' hd hN k as sh lg σ out h
    cases d' with
    | zero => omega
    | succ d' =>
      simp only [xcall] at h ⊢
      split at h
      · simp at h
      · rename_i M hM
        cases hb : Nat.ble (xcat as) M.2.2.2.2.2 with
        | false => rw [hb] at h; cases h
        | true =>
          rw [hb, cond_true] at h
          rw [cond_true]
          exact xgo_mono (ih d' N N' (by omega) hN) _ _ hN _ _ h
theorem EM_up {P : xP} {X : xX} {d d' k : Nat} {as : List Value} {sh : xS} {lg : Int64} {σ : xM} {out : xOut} (hd : d ≤ d') (h : EM P X d k as sh lg σ out) : EM P X d' k as sh lg σ out := by
  obtain ⟨N, h⟩ := h
  exact ⟨N, xcall_mono d d' N N hd (Nat.le_refl N) _ _ _ _ _ _ h⟩
theorem EM_of {P : xP} {X : xX} {d k : Nat} {M : xT} {as : List Value} {sh : xS} {lg : Int64} {σ : xM} {out : xOut} (hM : xnth P.1 k = some M) (hn : Nat.ble (xcat as) M.2.2.2.2.2 = true) (h : E P X d M σ (0, lv_args 0 as, [], sh, [], lg) out) : EM P X (d + 1) k as sh lg σ out := by
  obtain ⟨N, n, h⟩ := h
  refine ⟨max N n, ?_⟩
  simp only [xcall, hM, hn, cond_true]
  exact xgo_mono (xcall_mono d d N (max N n) (Nat.le_refl d) (Nat.le_max_left N n)) _ _ (Nat.le_max_right N n) _ _ h
theorem E_stp {P : xP} {X : xX} {d : Nat} {M : xT} {σ : xM} {c : xC} (c' : xC) {out : xOut} (h : xact P M X σ c = some (.inr (.inr c'))) (k : E P X d M σ c' out) : E P X d M σ c out := by
  obtain ⟨N, n, k⟩ := k
  exact ⟨N, n + 1, by rw [xgo, h]; exact k⟩
theorem E_par {P : xP} {X : xX} {d : Nat} {M : xT} {σ : xM} {c : xC} (c' : xC) {out : xOut} {p : Prop} {ip : Decidable p} (h : xact P M X σ c = if p then some (.inr (.inr c')) else none) (hp : p) (k : E P X d M σ c' out) : E P X d M σ c out := by
  rw [if_pos hp] at h
  exact E_stp c' h k
theorem E_parn {P : xP} {X : xX} {d : Nat} {M : xT} {σ : xM} {c : xC} (c' : xC) {out : xOut} {p : Prop} {ip : Decidable p} (h : xact P M X σ c = if p then none else some (.inr (.inr c'))) (hp : ¬ p) (k : E P X d M σ c' out) : E P X d M σ c out := by
  rw [if_neg hp] at h
  exact E_stp c' h k
theorem E_ret {P : xP} {X : xX} {d : Nat} {M : xT} {σ : xM} {c : xC} {out : xOut} (h : xact P M X σ c = some (.inl out)) : E P X d M σ c out := ⟨0, 1, by rw [xgo, h]⟩
theorem E_retp {P : xP} {X : xX} {d : Nat} {M : xT} {σ : xM} {c : xC} {out : xOut} {p : Prop} {ip : Decidable p} (h : xact P M X σ c = if p then some (.inl out) else none) (hp : p) : E P X d M σ c out := E_ret (by rw [h, if_pos hp])
theorem E_call {P : xP} {X : xX} {d d1 : Nat} {M : xT} {σ : xM} {c : xC} {out : xOut} {k : Nat} {as : List Value} {pc : Nat} {lv : xL} {st : List Value} {sh : xS} {ol : xO} {lg : Int64} {r : Option Value} {sh' : xS} {ol' : xO} {lg' : Int64}
    (h : xact P M X σ c = some (.inr (.inl (k, as, pc, lv, st, sh, ol, lg)))) (hc : EM P X d1 k as sh lg (xget ol σ) (r, sh', ol', lg')) (hd : d1 ≤ d) (kk : E P X d M σ (pc, lv, r.toList ++ st, sh', xmrg ol ol', lg') out) : E P X d M σ c out := by
  obtain ⟨N1, hc⟩ := EM_up hd hc
  obtain ⟨N, n, kk⟩ := kk
  refine ⟨max N N1, n + 1, ?_⟩
  rw [xgo, h]
  simp only
  rw [xcall_mono d d N1 (max N N1) (Nat.le_refl d) (Nat.le_max_right N N1) _ _ _ _ _ _ hc]
  exact xgo_mono (xcall_mono d d N (max N N1) (Nat.le_refl d) (Nat.le_max_left N N1)) _ _ (Nat.le_refl n) _ _ kk
def xsteps (P : xP) (M : xT) (X : xX) (σ : xM) : Nat → xC → Option xC
  | 0, c => some c
  | n + 1, c => match xact P M X σ c with
    | some (.inr (.inr c')) => xsteps P M X σ n c'
    | _ => none
theorem E_sts {P : xP} {X : xX} {d : Nat} {M : xT} {σ : xM} : ∀ (n : Nat) {c : xC} (c' : xC) {out : xOut}, xsteps P M X σ n c = some c' → E P X d M σ c' out → E P X d M σ c out := by
  intro n
  induction n with
  | zero => intro c c' out h k; simp only [xsteps, Option.some.injEq] at h; subst h; exact k
  | succ n ih =>
    intro c c' out h k
    rw [xsteps] at h
    split at h
    · rename_i c1 h1
      exact E_stp c1 h1 (ih c' h k)
    · simp at h
