/-! THE PURE MACHINE: values, memory, one instruction as a transformer of predicates, the least fixed point of it -/
abbrev PV : Type := Int ⊕ (Int64 ⊕ (Nat ⊕ Unit))
abbrev zi (x : Int) : PV := Sum.inl x
abbrev zl (x : Int64) : PV := Sum.inr (Sum.inl x)
abbrev zr (a : Nat) : PV := Sum.inr (Sum.inr (Sum.inl a))
abbrev zu : PV := Sum.inr (Sum.inr (Sum.inr ()))
abbrev ZM : Type := Nat × (Nat → Nat × Nat) × (Nat → Int → Int) × (Nat → Int → Int64) × (Nat → Int → Nat)
def zN (σ : ZM) : Nat := σ.1
def zS (σ : ZM) (a : Nat) : Nat × Nat := σ.2.1 a
def zI (σ : ZM) (a : Nat) (j : Int) : Int := σ.2.2.1 a j
def zJ (σ : ZM) (a : Nat) (j : Int) : Int64 := σ.2.2.2.1 a j
def zR (σ : ZM) (a : Nat) (j : Int) : Nat := σ.2.2.2.2 a j
def wI (σ : ZM) (a : Nat) (j x : Int) : ZM := (σ.1, σ.2.1, (fun b i => if b = a ∧ i = j then x else σ.2.2.1 b i), σ.2.2.2.1, σ.2.2.2.2)
def wJ (σ : ZM) (a : Nat) (j : Int) (x : Int64) : ZM := (σ.1, σ.2.1, σ.2.2.1, (fun b i => if b = a ∧ i = j then x else σ.2.2.2.1 b i), σ.2.2.2.2)
def wR (σ : ZM) (a : Nat) (j : Int) (x : Nat) : ZM := (σ.1, σ.2.1, σ.2.2.1, σ.2.2.2.1, (fun b i => if b = a ∧ i = j then x else σ.2.2.2.2 b i))
/-- a new cell with tag t and n places: all 0 -/
def znew (σ : ZM) (t n : Nat) : ZM := (σ.1 + 1, (fun b => if b = σ.1 then (t, n) else σ.2.1 b), (fun b i => if b = σ.1 then 0 else σ.2.2.1 b i), (fun b i => if b = σ.1 then 0 else σ.2.2.2.1 b i), (fun b i => if b = σ.1 then 0 else σ.2.2.2.2 b i))
/-- n arrays of longs of k places, behind an array of them -/
def zmult (σ : ZM) (n k : Nat) : ZM := (σ.1 + 1 + n, (fun b => if b = σ.1 then (105, n) else if σ.1 < b ∧ b ≤ σ.1 + n then (101, k) else σ.2.1 b), (fun b i => if σ.1 ≤ b ∧ b ≤ σ.1 + n then 0 else σ.2.2.1 b i), (fun b i => if σ.1 ≤ b ∧ b ≤ σ.1 + n then 0 else σ.2.2.2.1 b i), (fun b i => if b = σ.1 then (if 0 ≤ i ∧ i < n then σ.1 + 1 + i.toNat else 0) else if σ.1 < b ∧ b ≤ σ.1 + n then 0 else σ.2.2.2.2 b i))
def zobj (σ : ZM) (a ci : Nat) : Prop := 2 ≤ a ∧ a < zN σ ∧ (zS σ a).1 = ci
def zarr (σ : ZM) (a t : Nat) (i : Int) : Prop := 2 ≤ a ∧ a < zN σ ∧ (zS σ a).1 = t ∧ 0 ≤ i ∧ i < ((zS σ a).2 : Int)
def znth : List PV → Nat → PV
  | [], _ => zu
  | a :: _, 0 => a
  | _ :: l, n + 1 => znth l n
def zisl (v : PV) : Bool := match v with
  | .inr (.inl _) => true
  | _ => false
def zkill (a : PV) : PV := match zisl a with
  | true => zu
  | false => a
/-- a value of one word into place k -/
def zset1 : List PV → Nat → PV → List PV
  | [], _, _ => []
  | _ :: l, 0, v => v :: l
  | a :: l, 1, v => zkill a :: zset1 l 0 v
  | a :: l, n + 2, v => a :: zset1 l (n + 1) v
/-- a long into places k, k + 1 -/
def zset2 : List PV → Nat → PV → List PV
  | [], _, _ => []
  | _ :: l, 0, v => v :: zset1 l 0 zu
  | a :: l, 1, v => zkill a :: zset2 l 0 v
  | a :: l, n + 2, v => a :: zset2 l (n + 1) v
def zcat (v : PV) : Nat := match zisl v with
  | true => 2
  | false => 1
def zcats : List PV → Nat
  | [] => 0
  | v :: l => zcat v + zcats l
def zspread : List PV → List PV
  | [] => []
  | v :: l => match zisl v with
    | true => v :: zu :: zspread l
    | false => v :: zspread l
def zfill : Nat → List PV → List PV
  | 0, _ => []
  | n + 1, [] => zu :: zfill n []
  | n + 1, v :: l => v :: zfill n l
def zlocs (maxL : Nat) (args : List PV) : List PV := zfill maxL (zspread args)
/-- n values off the stack, the deepest first -/
def zpop : Nat → List PV → List PV → Option (List PV × List PV)
  | 0, acc, st => some (acc, st)
  | _ + 1, _, [] => none
  | n + 1, acc, v :: st => zpop n (v :: acc) st
def zat (x : List Nat) (n : Nat) : Nat := match x, n with
  | [], _ => 0
  | a :: _, 0 => a
  | _ :: l, n + 1 => zat l n
abbrev ZQ : Type := PV → ZM → Prop
abbrev ZK : Type := Nat → List PV → List PV → ZM → Nat × Nat → Prop
def zcond (c : ClassFile.Cond) (a b : Int) (A B : Prop) : Prop := match c with
  | .eq => (a = b → A) ∧ (a ≠ b → B)
  | .ne => (a ≠ b → A) ∧ (a = b → B)
  | .lt => (a < b → A) ∧ (b ≤ a → B)
  | .ge => (b ≤ a → A) ∧ (a < b → B)
  | .gt => (b < a → A) ∧ (a ≤ b → B)
  | .le => (a ≤ b → A) ∧ (b < a → B)
def zswT (F : Nat → Prop) (v : Int) : Int → List Nat → Prop
  | _, [] => True
  | lo, t :: ts => (v = lo → F t) ∧ zswT F v (lo + 1) ts
def zswP (F : Nat → Prop) (v : Int) (dflt : Nat) : List (Int × Int) → List Nat → Prop
  | [], _ => F dflt
  | _ :: _, [] => False
  | p :: ps, t :: ts => (v = p.1 → F t) ∧ (v ≠ p.1 → zswP F v dflt ps ts)
/-- -1, 0, 1 -/
def zlcmp (x y : Int64) : Int := if x < y then -1 else if x = y then 0 else 1
def zand (a b : Int) : Int := (Int32.ofInt a &&& Int32.ofInt b).toInt
def zxor (a b : Int) : Int := (Int32.ofInt a ^^^ Int32.ofInt b).toInt
def zshr (a b : Int) : Int := (Int32.ofInt a >>> (Int32.ofInt b &&& 31)).toInt
abbrev zrI (r : PV) (F : Int → Prop) : Prop := match r with
  | .inl y => F y
  | _ => False
abbrev zrL (r : PV) (F : Int64 → Prop) : Prop := match r with
  | .inr (.inl y) => F y
  | _ => False
abbrev zrR (r : PV) (F : Nat → Prop) : Prop := match r with
  | .inr (.inr (.inl y)) => F y
  | _ => False
/-- what a call's answer lays on the stack: 0 nothing, 1 an int, 2 a long, 3 a reference, 4 a boolean -/
def zrk (rk : Nat) (r : PV) (F : List PV → Prop) : Prop := match rk with
  | 0 => F []
  | 1 => zrI r (fun y => F [zi y])
  | 2 => zrL r (fun y => F [zl y])
  | 3 => zrR r (fun y => F [zr y])
  | 4 => zrI r (fun y => F [zi y])
  | _ => False
/-- an int's array: one of the memory's, or (in the law alone) the script -/
abbrev zldo (rk : Nat) (σ : ZM) (a : Nat) (j : Int) : Prop := match rk with
  | 5 => zarr σ a 100 j ∨ (a = 1 ∧ 0 ≤ j ∧ j < ((zS σ 1).2 : Int))
  | _ => zarr σ a 100 j
abbrev zlno (rk : Nat) (σ : ZM) (a : Nat) : Prop := match rk with
  | 5 => (2 ≤ a ∧ a < zN σ ∧ 100 ≤ (zS σ a).1 ∧ (zS σ a).1 ≤ 105) ∨ a = 1
  | _ => 2 ≤ a ∧ a < zN σ ∧ 100 ≤ (zS σ a).1 ∧ (zS σ a).1 ≤ 105
def zrecv (σ : ZM) (args : List PV) (ci : Nat) : Prop := match args with
  | .inr (.inr (.inl a)) :: _ => zobj σ a ci
  | _ => False
/-- a call: x = [callee, arguments, maxL, answer's kind, cells, slots, receiver's kind (99: static; 98: Object's <init>), ..] -/
def zcall (inf : Nat × Nat × Nat) (x : List Nat) (pc : Nat) (ls st : List PV) (σ : ZM) (k : Nat × Nat) (K : ZK) (C : Nat → List PV → ZM → ZQ → Prop) : Prop :=
  match Nat.beq (zat x 6) 98 with
  | true => match st with
    | .inr (.inr (.inl a)) :: st' => (match Nat.ble (zcats st') 8 with
      | true => 2 ≤ a ∧ K (pc + 3) ls st' σ k
      | false => False)
    | _ => False
  | false => match zpop (zat x 1) [] st with
    | none => False
    | some (args, st') => match Nat.ble (zcats st') 8 && Nat.ble (zcats args) (zat x 2) with
      | false => False
      | true => match Nat.beq (zat x 4) 0 with
        | true => match Nat.beq (zat x 6) 99 with
          | true => C (zat x 0) (zlocs (zat x 2) args) σ (fun r σ' => zrk (zat x 3) r (fun vs => K (pc + 3) ls (vs ++ st') σ' k))
          | false => zrecv σ args (zat x 6) ∧ C (zat x 0) (zlocs (zat x 2) args) σ (fun r σ' => zrk (zat x 3) r (fun vs => K (pc + 3) ls (vs ++ st') σ' k))
        | false => (k.1 + zat x 4 ≤ inf.2.1 ∧ k.2 + zat x 5 ≤ inf.2.2) ∧ zrecv σ args (zat x 6) ∧ C (zat x 0) (zlocs (zat x 2) args) σ (fun r σ' => zrk (zat x 3) r (fun vs => K (pc + 3) ls (vs ++ st') σ' (k.1 + zat x 4, k.2 + zat x 5)))
/-- one instruction: inf = (the answer's kind, cells, slots) of the method -/
def znx (inf : Nat × Nat × Nat) (len : Nat) (i : Instr) (x : List Nat) (pc : Nat) (ls st : List PV) (σ : ZM) (k : Nat × Nat) (K : ZK) (Q : ZQ) (C : Nat → List PV → ZM → ZQ → Prop) : Prop :=
  match i with
  | .iconst n => K (pc + 1) ls (zi n :: st) σ k
  | .bipush n => K (pc + 2) ls (zi n :: st) σ k
  | .sipush n => K (pc + 3) ls (zi n :: st) σ k
  | .ldc _ => K (pc + 2) ls (zi (zat x 0 : Int) :: st) σ k
  | .lconst n => K (pc + 1) ls (zl (Int64.ofNat n.val) :: st) σ k
  | .ldc2_w _ => K (pc + 3) ls (zl (Int64.ofNat (zat x 0)) :: st) σ k
  | .iload_n n => match znth ls n.val with
    | .inl v => K (pc + 1) ls (zi v :: st) σ k
    | _ => False
  | .iload n => match znth ls n with
    | .inl v => K (pc + 2) ls (zi v :: st) σ k
    | _ => False
  | .lload_n n => match znth ls n.val with
    | .inr (.inl v) => K (pc + 1) ls (zl v :: st) σ k
    | _ => False
  | .lload n => match znth ls n with
    | .inr (.inl v) => K (pc + 2) ls (zl v :: st) σ k
    | _ => False
  | .aload_n n => match znth ls n.val with
    | .inr (.inr (.inl v)) => K (pc + 1) ls (zr v :: st) σ k
    | _ => False
  | .aload n => match znth ls n with
    | .inr (.inr (.inl v)) => K (pc + 2) ls (zr v :: st) σ k
    | _ => False
  | .istore_n n => match st with
    | .inl v :: st' => K (pc + 1) (zset1 ls n.val (zi v)) st' σ k
    | _ => False
  | .istore n => match st with
    | .inl v :: st' => K (pc + 2) (zset1 ls n (zi v)) st' σ k
    | _ => False
  | .lstore_n n => match st with
    | .inr (.inl v) :: st' => K (pc + 1) (zset2 ls n.val (zl v)) st' σ k
    | _ => False
  | .lstore n => match st with
    | .inr (.inl v) :: st' => K (pc + 2) (zset2 ls n (zl v)) st' σ k
    | _ => False
  | .astore_n n => match st with
    | .inr (.inr (.inl v)) :: st' => K (pc + 1) (zset1 ls n.val (zr v)) st' σ k
    | _ => False
  | .astore n => match st with
    | .inr (.inr (.inl v)) :: st' => K (pc + 2) (zset1 ls n (zr v)) st' σ k
    | _ => False
  | .iinc n d => match znth ls n with
    | .inl v => (-2147483648 ≤ v + d ∧ v + d ≤ 2147483647) ∧ K (pc + 3) (zset1 ls n (zi (v + d))) st σ k
    | _ => False
  | .iadd => match st with
    | .inl b :: .inl a :: st' => (-2147483648 ≤ a + b ∧ a + b ≤ 2147483647) ∧ K (pc + 1) ls (zi (a + b) :: st') σ k
    | _ => False
  | .isub => match st with
    | .inl b :: .inl a :: st' => (-2147483648 ≤ a - b ∧ a - b ≤ 2147483647) ∧ K (pc + 1) ls (zi (a - b) :: st') σ k
    | _ => False
  | .imul => match st with
    | .inl b :: .inl a :: st' => (-2147483648 ≤ a * b ∧ a * b ≤ 2147483647) ∧ K (pc + 1) ls (zi (a * b) :: st') σ k
    | _ => False
  | .idiv => match st with
    | .inl b :: .inl a :: st' => b ≠ 0 ∧ (-2147483648 ≤ Int.tdiv a b ∧ Int.tdiv a b ≤ 2147483647) ∧ K (pc + 1) ls (zi (Int.tdiv a b) :: st') σ k
    | _ => False
  | .irem => match st with
    | .inl b :: .inl a :: st' => b ≠ 0 ∧ (-2147483648 ≤ Int.tdiv a b ∧ Int.tdiv a b ≤ 2147483647) ∧ K (pc + 1) ls (zi (Int.tmod a b) :: st') σ k
    | _ => False
  | .ineg => match st with
    | .inl a :: st' => (-2147483648 ≤ -a ∧ -a ≤ 2147483647) ∧ K (pc + 1) ls (zi (-a) :: st') σ k
    | _ => False
  | .iand => match st with
    | .inl b :: .inl a :: st' => K (pc + 1) ls (zi (zand a b) :: st') σ k
    | _ => False
  | .ixor => match st with
    | .inl b :: .inl a :: st' => K (pc + 1) ls (zi (zxor a b) :: st') σ k
    | _ => False
  | .ishr => match st with
    | .inl b :: .inl a :: st' => K (pc + 1) ls (zi (zshr a b) :: st') σ k
    | _ => False
  | .ladd => match st with
    | .inr (.inl b) :: .inr (.inl a) :: st' => K (pc + 1) ls (zl (a + b) :: st') σ k
    | _ => False
  | .lsub => match st with
    | .inr (.inl b) :: .inr (.inl a) :: st' => K (pc + 1) ls (zl (a - b) :: st') σ k
    | _ => False
  | .lmul => match st with
    | .inr (.inl b) :: .inr (.inl a) :: st' => K (pc + 1) ls (zl (a * b) :: st') σ k
    | _ => False
  | .ldiv => match st with
    | .inr (.inl b) :: .inr (.inl a) :: st' => b ≠ 0 ∧ K (pc + 1) ls (zl (a / b) :: st') σ k
    | _ => False
  | .lneg => match st with
    | .inr (.inl a) :: st' => K (pc + 1) ls (zl (-a) :: st') σ k
    | _ => False
  | .land => match st with
    | .inr (.inl b) :: .inr (.inl a) :: st' => K (pc + 1) ls (zl (a &&& b) :: st') σ k
    | _ => False
  | .lor => match st with
    | .inr (.inl b) :: .inr (.inl a) :: st' => K (pc + 1) ls (zl (a ||| b) :: st') σ k
    | _ => False
  | .lshl => match st with
    | .inl b :: .inr (.inl a) :: st' => K (pc + 1) ls (zl (a <<< ((Int32.ofInt b).toInt64 &&& 63)) :: st') σ k
    | _ => False
  | .i2l => match st with
    | .inl a :: st' => K (pc + 1) ls (zl (Int64.ofInt a) :: st') σ k
    | _ => False
  | .l2i => match st with
    | .inr (.inl a) :: st' => K (pc + 1) ls (zi a.toInt32.toInt :: st') σ k
    | _ => False
  | .lcmp => match st with
    | .inr (.inl b) :: .inr (.inl a) :: st' => K (pc + 1) ls (zi (zlcmp a b) :: st') σ k
    | _ => False
  | .dup => match st with
    | v :: st' => (match zisl v with | true => False | false => K (pc + 1) ls (v :: v :: st') σ k)
    | _ => False
  | .dup2 => match st with
    | v :: w :: st' => (match zisl v || zisl w with | true => False | false => K (pc + 1) ls (v :: w :: v :: w :: st') σ k)
    | _ => False
  | .pop => match st with
    | v :: st' => (match zisl v with | true => False | false => K (pc + 1) ls st' σ k)
    | _ => False
  | .if_icmp c _ => match st with
    | .inl b :: .inl a :: st' => zcond c a b (K (zat x 0) ls st' σ k) (K (pc + 3) ls st' σ k)
    | _ => False
  | .ifCond c _ => match st with
    | .inl a :: st' => zcond c a 0 (K (zat x 0) ls st' σ k) (K (pc + 3) ls st' σ k)
    | _ => False
  | .if_acmp c _ => match st with
    | .inr (.inr (.inl b)) :: .inr (.inr (.inl a)) :: st' => (match c with
      | .eq => (a = b → K (zat x 0) ls st' σ k) ∧ (a ≠ b → K (pc + 3) ls st' σ k)
      | .ne => (a ≠ b → K (zat x 0) ls st' σ k) ∧ (a = b → K (pc + 3) ls st' σ k))
    | _ => False
  | .goto _ => K (zat x 0) ls st σ k
  | .tableswitch _ lo hi _ => match st with
    | .inl v :: st' => (v < lo ∨ hi < v → K (zat x 0) ls st' σ k) ∧ zswT (fun t => K t ls st' σ k) v lo x.tail
    | _ => False
  | .lookupswitch _ ps => match st with
    | .inl v :: st' => zswP (fun t => K t ls st' σ k) v (zat x 0) ps.toList x.tail
    | _ => False
  | .getfield _ => match st with
    | .inr (.inr (.inl a)) :: st' => zobj σ a (zat x 0) ∧ (match zat x 2 with
      | 0 => K (pc + 3) ls (zi (zI σ a (zat x 1)) :: st') σ k
      | 1 => K (pc + 3) ls (zl (zJ σ a (zat x 1)) :: st') σ k
      | 2 => K (pc + 3) ls (zr (zR σ a (zat x 1)) :: st') σ k
      | _ => K (pc + 3) ls (zi (zI σ a (zat x 1)) :: st') σ k)
    | _ => False
  | .putfield _ => match st with
    | v :: .inr (.inr (.inl a)) :: st' => zobj σ a (zat x 0) ∧ (match zat x 2, v with
      | 0, .inl y => K (pc + 3) ls st' (wI σ a (zat x 1) y) k
      | 1, .inr (.inl y) => K (pc + 3) ls st' (wJ σ a (zat x 1) y) k
      | 2, .inr (.inr (.inl y)) => K (pc + 3) ls st' (wR σ a (zat x 1) y) k
      | 3, .inl y => (y = 0 ∨ y = 1) ∧ K (pc + 3) ls st' (wI σ a (zat x 1) y) k
      | _, _ => False)
    | _ => False
  | .iaload => match st with
    | .inl j :: .inr (.inr (.inl a)) :: st' => zldo inf.1 σ a j ∧ K (pc + 1) ls (zi (zI σ a j) :: st') σ k
    | _ => False
  | .laload => match st with
    | .inl j :: .inr (.inr (.inl a)) :: st' => zarr σ a 101 j ∧ K (pc + 1) ls (zl (zJ σ a j) :: st') σ k
    | _ => False
  | .baload => match st with
    | .inl j :: .inr (.inr (.inl a)) :: st' => zarr σ a 102 j ∧ K (pc + 1) ls (zi (zI σ a j) :: st') σ k
    | _ => False
  | .aaload => match st with
    | .inl j :: .inr (.inr (.inl a)) :: st' => (zarr σ a 103 j ∨ zarr σ a 104 j ∨ zarr σ a 105 j) ∧ K (pc + 1) ls (zr (zR σ a j) :: st') σ k
    | _ => False
  | .iastore => match st with
    | .inl y :: .inl j :: .inr (.inr (.inl a)) :: st' => zarr σ a 100 j ∧ K (pc + 1) ls st' (wI σ a j y) k
    | _ => False
  | .lastore => match st with
    | .inr (.inl y) :: .inl j :: .inr (.inr (.inl a)) :: st' => zarr σ a 101 j ∧ K (pc + 1) ls st' (wJ σ a j y) k
    | _ => False
  | .bastore => match st with
    | .inl y :: .inl j :: .inr (.inr (.inl a)) :: st' => zarr σ a 102 j ∧ (y = 0 ∨ y = 1) ∧ K (pc + 1) ls st' (wI σ a j y) k
    | _ => False
  | .aastore => match st with
    | .inr (.inr (.inl y)) :: .inl j :: .inr (.inr (.inl a)) :: st' => ((zarr σ a 103 j ∧ zobj σ y 8) ∨ (zarr σ a 104 j ∧ zobj σ y 4)) ∧ K (pc + 1) ls st' (wR σ a j y) k
    | _ => False
  | .arraylength => match st with
    | .inr (.inr (.inl a)) :: st' => zlno inf.1 σ a ∧ K (pc + 1) ls (zi ((zS σ a).2 : Int) :: st') σ k
    | _ => False
  | .new _ => (k.1 + 1 ≤ inf.2.1 ∧ k.2 + zat x 1 ≤ inf.2.2) ∧ K (pc + 3) ls (zr (zN σ) :: st) (znew σ (zat x 0) (zat x 1)) (k.1 + 1, k.2 + zat x 1)
  | .newarray _ => match st with
    | .inl n :: st' => (0 ≤ n ∧ n ≤ 1000000) ∧ (k.1 + 1 ≤ inf.2.1 ∧ k.2 + n.toNat ≤ inf.2.2) ∧ K (pc + 2) ls (zr (zN σ) :: st') (znew σ (zat x 0) n.toNat) (k.1 + 1, k.2 + n.toNat)
    | _ => False
  | .anewarray _ => match st with
    | .inl n :: st' => (0 ≤ n ∧ n ≤ 1000000) ∧ (k.1 + 1 ≤ inf.2.1 ∧ k.2 + n.toNat ≤ inf.2.2) ∧ K (pc + 3) ls (zr (zN σ) :: st') (znew σ (zat x 0) n.toNat) (k.1 + 1, k.2 + n.toNat)
    | _ => False
  | .multianewarray _ _ => match st with
    | .inl d :: .inl n :: st' => (0 ≤ n ∧ n ≤ 1000 ∧ 0 ≤ d ∧ d ≤ 1000) ∧ (k.1 + (1 + n.toNat) ≤ inf.2.1 ∧ k.2 + (n.toNat + n.toNat * d.toNat) ≤ inf.2.2) ∧ K (pc + 4) ls (zr (zN σ) :: st') (zmult σ n.toNat d.toNat) (k.1 + (1 + n.toNat), k.2 + (n.toNat + n.toNat * d.toNat))
    | _ => False
  | .invokevirtual _ => zcall inf x pc ls st σ k K C
  | .invokespecial _ => zcall inf x pc ls st σ k K C
  | .invokestatic _ => zcall inf x pc ls st σ k K C
  | .ireturn => match st with
    | [.inl v] => (match inf.1 with
      | 1 => Q (zi v) σ
      | 4 => (v = 0 ∨ v = 1) ∧ Q (zi v) σ
      | 5 => v = 1 ∧ Q (zi v) σ
      | _ => False)
    | _ => False
  | .lreturn => match st with
    | [.inr (.inl v)] => (match inf.1 with
      | 2 => Q (zl v) σ
      | _ => False)
    | _ => False
  | .areturn => match st with
    | [.inr (.inr (.inl v))] => (match inf.1 with
      | 3 => Q (zr v) σ
      | _ => False)
    | _ => False
  | .return_ => match st with
    | [] => (match inf.1 with
      | 0 => Q zu σ
      | _ => False)
    | _ => False
  | _ => False
