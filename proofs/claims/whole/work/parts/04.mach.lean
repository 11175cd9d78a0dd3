/-! the abstract machine: a heap of rows by abstract addresses, and an interpreter of decoded rows -/
abbrev mI_ : Type := Jvm.ClassFile.Instr
/-- next address, slots used, kinds, lengths, references -/
abbrev mG : Type := Nat × Nat × (Nat → Nat) × (Nat → Nat) × (Nat → Nat → Option Nat)
abbrev mH : Type := mG × (Nat → Nat → Int32) × (Nat → Nat → Int64)
abbrev mO : Type := (Option Value ⊕ String) × mH
abbrev mC : Type := Nat → List Value → mH → Option mO
abbrev mS : Type := Nat → List Value → List Value → mH → Option mO
/-- pc, instruction, x, y, word, cut, int, long -/
abbrev mRow : Type := Nat × mI_ × Nat × Nat × Nat × Nat × Int32 × Int64
abbrev mHd : Type := List (Nat × Nat × Nat × String)
abbrev mCm : Type := List (Nat × List Bool)
def gK (G : mG) (a : Nat) : Nat := G.2.2.1 a
def gN (G : mG) (a : Nat) : Nat := G.2.2.2.1 a
def gR (G : mG) (a k : Nat) : Option Nat := G.2.2.2.2 a k
def up2 {α : Type} (F : Nat → Nat → α) (a k : Nat) (v : α) : Nat → Nat → α := va_up F a (va_up (F a) k v)
abbrev mU : Value := .retAddr 0
/-- a reference stored -/
def gS (G : mG) (a k : Nat) (v : Option Nat) : mG := (G.1, G.2.1, G.2.2.1, G.2.2.2.1, up2 G.2.2.2.2 a k v)
/-- a new cell of kind t and length n, of m slots -/
def gA (G : mG) (t n m : Nat) : mG := (G.1 + 1, G.2.1 + m, va_up G.2.2.1 G.1 t, va_up G.2.2.2.1 G.1 n, va_up G.2.2.2.2 G.1 (fun _ => none))
def hA (h : mH) (t n m : Nat) : mH := (gA h.1 t n m, va_up h.2.1 h.1.1 (fun _ => 0), va_up h.2.2 h.1.1 (fun _ => 0))
/-- a caught exception takes a cell of six slots -/
def gC (G : mG) : mG := (G.1 + 1, G.2.1 + 6, va_up G.2.2.1 G.1 0, G.2.2.2.1, G.2.2.2.2)
def gk (G : mG) (a k : Nat) (X : Option mO) : Option mO := if gK G a = k then X else none
def gr (G : mG) (a k : Nat) (f : Nat → Option mO) : Option mO := match gR G a k with
  | some b => f b
  | none => none
def gx (G : mG) (a t : Nat) (i : Int32) (f : Nat → Option mO) : Option mO := if gK G a = t ∧ ¬ (i < 0 ∨ gN G a ≤ i.toNatClampNeg) then f i.toNatClampNeg else none
def gy (G : mG) (a k : Nat) (f : Nat → Option mO) (g : Option mO) : Option mO := match gR G a k with
  | some b => f b
  | none => g
def m1i (st : List Value) (f : Int32 → List Value → Option mO) : Option mO := match st with
  | .int x :: st => f x st
  | _ => none
def m2i (st : List Value) (f : Int32 → Int32 → List Value → Option mO) : Option mO := match st with
  | .int y :: .int x :: st => f x y st
  | _ => none
def m1l (st : List Value) (f : Int64 → List Value → Option mO) : Option mO := match st with
  | .long x :: st => f x st
  | _ => none
def m2l (st : List Value) (f : Int64 → Int64 → List Value → Option mO) : Option mO := match st with
  | .long y :: .long x :: st => f x y st
  | _ => none
def mli (st : List Value) (f : Int64 → Int32 → List Value → Option mO) : Option mO := match st with
  | .int y :: .long x :: st => f x y st
  | _ => none
def m1r (st : List Value) (f : Nat → List Value → Option mO) : Option mO := match st with
  | .ref a :: st => f a st
  | _ => none
def mri (st : List Value) (f : Nat → Int32 → List Value → Option mO) : Option mO := match st with
  | .int i :: .ref a :: st => f a i st
  | _ => none
def mrr (st : List Value) (f : Nat → Nat → List Value → Option mO) : Option mO := match st with
  | .ref b :: .ref a :: st => f a b st
  | _ => none
def mrii (st : List Value) (f : Nat → Int32 → Int32 → List Value → Option mO) : Option mO := match st with
  | .int v :: .int i :: .ref a :: st => f a i v st
  | _ => none
def mril (st : List Value) (f : Nat → Int32 → Int64 → List Value → Option mO) : Option mO := match st with
  | .long v :: .int i :: .ref a :: st => f a i v st
  | _ => none
def mrir (st : List Value) (f : Nat → Int32 → Nat → List Value → Option mO) : Option mO := match st with
  | .ref v :: .int i :: .ref a :: st => f a i v st
  | _ => none
def mcpy (st : List Value) (f : Nat → Int32 → Nat → Int32 → Int32 → List Value → Option mO) : Option mO := match st with
  | .int n :: .int dp :: .ref b :: .int sp :: .ref a :: st => f a sp b dp n st
  | _ => none
def mnul (st : List Value) (f : List Value → Option mO) (g : List Value → Option mO) : Option mO := match st with
  | .ref _ :: st => f st
  | .null :: st => g st
  | _ => none
def m1a (st : List Value) (f : Value → List Value → Option mO) : Option mO := match st with
  | .ref a :: st => f (.ref a) st
  | .null :: st => f .null st
  | _ => none
def mv1 (st : List Value) (f : Value → List Value → Option mO) : Option mO := match st with
  | v :: st => if v.category = 1 then f v st else none
  | _ => none
def mv2 (st : List Value) (f : Value → Value → List Value → Option mO) : Option mO := match st with
  | v :: w :: st => if v.category = 1 ∧ w.category = 1 then f v w st else none
  | _ => none
def lI (ls : List Value) (k : Nat) (f : Int32 → Option mO) : Option mO := match ls[k]? with
  | some (.int v) => f v
  | _ => none
def lL (ls : List Value) (k : Nat) (f : Int64 → Option mO) : Option mO := match ls[k]? with
  | some (.long v) => f v
  | _ => none
def lA (ls : List Value) (k : Nat) (f : Value → Option mO) : Option mO := match ls[k]? with
  | some (.ref a) => f (.ref a)
  | some .null => f .null
  | _ => none
/-- a long below slot k is gone -/
def mkill (ls : List Value) (k : Nat) : List Value := match k with
  | 0 => ls
  | k + 1 => match ls[k]? with
    | some (.long _) => ls.set k mU
    | some (.double _) => ls.set k mU
    | _ => ls
def msto (ls : List Value) (k : Nat) (v : Value) : List Value := (mkill ls k).set k v
def mstl (ls : List Value) (k : Nat) (v : Value) : List Value := ((mkill ls k).set k v).set (k + 1) mU
def mnorm : List Bool → List Value → List Value
  | b :: bs, v :: vs => (match b with | true => v | false => mU) :: mnorm bs vs
  | _, _ => []
def mlook (cm : mCm) (c : Nat) : List Bool := match cm with
  | [] => []
  | q :: t => if q.1 = c then q.2 else mlook t c
def mhand (hd : mHd) (pc : Nat) (E : String) : Option Nat := match hd with
  | [] => none
  | q :: t => if q.1 ≤ pc ∧ pc < q.2.1 ∧ q.2.2.2 = E then some q.2.2.1 else mhand t pc E
def mcV (r : Option mO) (f : mH → Option mO) (g : String → mH → Option mO) : Option mO := match r with
  | some (.inl none, h) => f h
  | some (.inr E, h) => g E h
  | _ => none
def mcI (r : Option mO) (f : Int32 → mH → Option mO) (g : String → mH → Option mO) : Option mO := match r with
  | some (.inl (some (.int v)), h) => f v h
  | some (.inr E, h) => g E h
  | _ => none
def mcL (r : Option mO) (f : Int64 → mH → Option mO) (g : String → mH → Option mO) : Option mO := match r with
  | some (.inl (some (.long v)), h) => f v h
  | some (.inr E, h) => g E h
  | _ => none
def mexc (hd : mHd) (cm : mCm) (K : mS) (pc : Nat) (ls : List Value) : String → mH → Option mO := fun E h => match mhand hd pc E with
  | some c => K c (mnorm (mlook cm c) ls) [.ref h.1.1] (gC h.1, h.2.1, h.2.2)
  | none => some (.inr E, h)
def mtsw (pc : Nat) (d : Int) (v : Int32) (J : Nat → Option mO) : Int → List Int → Option mO
  | _, [] => J ((pc : Int) + d).toNat
  | lo, o :: os => if v = Int32.ofInt lo then J ((pc : Int) + o).toNat else mtsw pc d v J (lo + 1) os
/-- what a field holds: 0 an int, 1 a boolean, 2 a reference -/
def mft : List (List Nat) := [[2,0,0,0,0,0], [2], [2,0,2,0], [0,0,2,2], [0,0,2,2,2,2,2,2,2,2,0,2,2,2,2,2,0,0,0], [2,2,2], [2,2,2,2], [2,2,2,0,0,0,0,2,2,2,0], [0,0,0,0,0,0,2,2,2,2,2,2,2,2,2,2,2,2,2], [0,2,2], [2,0,0,0,0,0,0,0], [2,2,2,2,2,2,0,2,2,2,2,2,2,2,2,0], [0,2,2,0,0,0,0,0,0,0,2,2,2,2,2,0,0,0,0,0,1,1,2,0,1,2,2,2,0,2,2,2,0,0,0,2,0,0,2,2,2,2,2,2,0,0,2,2,2,2,2,0,2,2,2,2,2]]
def mfk (c k : Nat) : Nat := (mft.getD c []).getD k 9
/-- the exceptions -/
def mexn (k : Nat) : String := match k with
  | 0 => "java/lang/IllegalArgumentException"
  | 1 => "java/lang/IndexOutOfBoundsException"
  | 2 => "java/util/NoSuchElementException"
  | _ => "java/lang/IllegalStateException"
/-- the texts of the String constants: 0 to 22 the reference's, then the class's -/
def mtxs : List (List Int32) := [
  [115, 110, 97, 112],
  [115, 108, 111, 119],
  [100, 114, 97, 117, 103, 104, 116],
  [114, 111, 111, 109],
  [119, 97, 108, 108],
  [111, 117, 116, 101, 114],
  [119, 105, 110, 100, 111, 119],
  [115, 117, 110],
  [114, 97, 100, 105, 97, 116, 111, 114],
  [112, 117, 109, 112],
  [98, 111, 105, 108, 101, 114],
  [109, 101, 116, 101, 114],
  [115, 105, 122, 101],
  [97, 108, 108],
  [109, 97, 110, 121],
  [115, 101, 116],
  [111, 114],
  [97, 110, 100],
  [110, 111, 116],
  [117, 110, 100, 101, 114],
  [111, 118, 101, 114],
  [111, 112, 101, 110, 101, 100],
  [103, 111, 116],
  [109, 101, 116, 101, 114, 32, 115, 105, 122, 101, 32, 97, 108, 108, 32, 109, 97, 110, 121, 32, 115, 101, 116],
  [111, 114],
  [97, 110, 100],
  [117, 110, 100, 101, 114, 32, 111, 118, 101, 114, 32, 111, 112, 101, 110, 101, 100, 32, 103, 111, 116, 32, 110, 111, 116],
  [114, 111, 111, 109, 32, 119, 97, 108, 108, 32, 111, 117, 116, 101, 114, 32, 119, 105, 110, 100, 111, 119, 32, 115, 117, 110, 32, 114, 97, 100, 105, 97, 116, 111, 114, 32, 115, 110, 97, 112, 32, 115, 108, 111, 119, 32, 100, 114, 97, 117, 103, 104, 116, 32, 112, 117, 109, 112, 32, 98, 111, 105, 108, 101, 114]]
def mtext (a : Nat) (f : List Int32 → Option mO) : Option mO := match a with
  | 0 => none
  | a + 1 => match mtxs[a]? with
    | some t => f t
    | none => none
def mbool (v : Int32) (X : Option mO) : Option mO := if v = 0 ∨ v = 1 then X else none
def mcat (st : List Value) : Nat := (st.map fun v => v.category).sum
def mrcv (G : mG) (k : Nat) (as : List Value) (X : Option mO) : Option mO := match k with
  | 0 => X
  | k + 1 => match as with
    | .ref a :: _ => gk G a (k + 1) X
    | _ => none
def mnth (y : Nat) (exc : String → mH → Option mO) : String → mH → Option mO := match y / 10000 with
  | 0 => exc
  | _ => fun _ _ => none
/-- y: arguments + 10 * (0 void, 1 int, 2 long) + 100 * (kind of the receiver) + 10000 * (1: it never throws) -/
def mcall (cal : mC) (exc : String → mH → Option mO) (nx : List Value → mH → Option mO) (x y : Nat) (st : List Value) (h : mH) : Option mO :=
  if st.length < y % 10 ∨ 8 < mcat (st.drop (y % 10)) then none else
  mrcv h.1 (y / 100 % 100) (st.take (y % 10)).reverse (match y / 10 % 10 with
  | 0 => mcV (cal x (st.take (y % 10)).reverse h) (fun h' => nx (st.drop (y % 10)) h') (mnth y exc)
  | 1 => mcI (cal x (st.take (y % 10)).reverse h) (fun v h' => nx (.int v :: st.drop (y % 10)) h') (mnth y exc)
  | _ => mcL (cal x (st.take (y % 10)).reverse h) (fun v h' => nx (.long v :: st.drop (y % 10)) h') (mnth y exc))
def marc {α : Type} (G : mG) (t : Nat) (F : Nat → Nat → α) (a : Nat) (sp : Int32) (b : Nat) (dp n : Int32) (f : (Nat → Nat → α) → Option mO) : Option mO :=
  if gK G a = t ∧ gK G b = t ∧ ¬ sp < 0 ∧ ¬ dp < 0 ∧ ¬ n < 0 ∧ sp.toNatClampNeg + n.toNatClampNeg ≤ gN G a ∧ dp.toNatClampNeg + n.toNatClampNeg ≤ gN G b then f (va_up F b (va_cpy (F a) (F b) sp.toNatClampNeg dp.toNatClampNeg n.toNatClampNeg)) else none
def jmax (x y : Int32) : Int32 := if x < y then y else x
def jmin (x y : Int32) : Int32 := if y < x then y else x
def jabs (x : Int32) : Int32 := if 0 ≤ x then x else 0 - x
/-- an invocation: 900 String.length, 901 String.charAt, 902 and 904 System.arraycopy, 903 Object() -/
def minv (cal : mC) (exc : String → mH → Option mO) (nx : List Value → mH → Option mO) (x y : Nat) (st : List Value) (h : mH) : Option mO := match x with
  | 900 => m1r st (fun a st => if 8 < mcat st then none else mtext a (fun t => nx (.int (Int32.ofNat t.length) :: st) h))
  | 901 => mri st (fun a i st => if 8 < mcat st then none else mtext a (fun t => if i < 0 ∨ t.length ≤ i.toNatClampNeg then none else nx (.int (t.getD i.toNatClampNeg 0) :: st) h))
  | 902 => mcpy st (fun a sp b dp n st => if 8 < mcat st then none else marc h.1 20 h.2.1 a sp b dp n (fun I => nx st (h.1, I, h.2.2)))
  | 904 => mcpy st (fun a sp b dp n st => if 8 < mcat st then none else marc h.1 21 h.2.2 a sp b dp n (fun L => nx st (h.1, h.2.1, L)))
  | 903 => m1r st (fun _ st => if 8 < mcat st then none else nx st h)
  | 905 => m2i st (fun a b st => if 8 < mcat st then none else nx (.int (jmax a b) :: st) h)
  | 906 => m2i st (fun a b st => if 8 < mcat st then none else nx (.int (jmin a b) :: st) h)
  | 907 => m1i st (fun a st => if 8 < mcat st then none else nx (.int (jabs a) :: st) h)
  | x => mcall cal exc nx x y st h
def mnewA (nx : List Value → mH → Option mO) (t : Nat) (st : List Value) (h : mH) : Option mO := m1i st (fun n st => if n < 0 ∨ 100000 < n.toNatClampNeg then none else nx (.ref h.1.1 :: st) (hA h t n.toNatClampNeg n.toNatClampNeg))
def mstep (cal : mC) (hd : mHd) (cm : mCm) (K : mS) (nx : List Value → List Value → mH → Option mO) (pc : Nat) (i : mI_) (x y : Nat) (vi : Int32) (vl : Int64) (ls st : List Value) (h : mH) : Option mO :=
  match i with
  | .iconst _ => nx ls (.int vi :: st) h
  | .bipush _ => nx ls (.int vi :: st) h
  | .sipush _ => nx ls (.int vi :: st) h
  | .ldc _ => (match y with
    | 0 => nx ls (.int vi :: st) h
    | _ => nx ls (.ref x :: st) h)
  | .ldc_w _ => (match y with
    | 0 => nx ls (.int vi :: st) h
    | _ => nx ls (.ref x :: st) h)
  | .ldc2_w _ => nx ls (.long vl :: st) h
  | .lconst _ => nx ls (.long vl :: st) h
  | .iload _ => lI ls x (fun v => nx ls (.int v :: st) h)
  | .iload_n _ => lI ls x (fun v => nx ls (.int v :: st) h)
  | .lload _ => lL ls x (fun v => nx ls (.long v :: st) h)
  | .lload_n _ => lL ls x (fun v => nx ls (.long v :: st) h)
  | .aload _ => lA ls x (fun v => nx ls (v :: st) h)
  | .aload_n _ => lA ls x (fun v => nx ls (v :: st) h)
  | .istore _ => m1i st (fun v st => nx (msto ls x (.int v)) st h)
  | .istore_n _ => m1i st (fun v st => nx (msto ls x (.int v)) st h)
  | .lstore _ => m1l st (fun v st => nx (mstl ls x (.long v)) st h)
  | .lstore_n _ => m1l st (fun v st => nx (mstl ls x (.long v)) st h)
  | .astore _ => m1a st (fun v st => nx (msto ls x v) st h)
  | .astore_n _ => m1a st (fun v st => nx (msto ls x v) st h)
  | .iinc _ _ => lI ls x (fun v => nx (msto ls x (.int (v + vi))) st h)
  | .iadd => m2i st (fun a b st => nx ls (.int (a + b) :: st) h)
  | .isub => m2i st (fun a b st => nx ls (.int (a - b) :: st) h)
  | .imul => m2i st (fun a b st => nx ls (.int (a * b) :: st) h)
  | .iand => m2i st (fun a b st => nx ls (.int (a &&& b) :: st) h)
  | .ior => m2i st (fun a b st => nx ls (.int (a ||| b) :: st) h)
  | .ixor => m2i st (fun a b st => nx ls (.int (a ^^^ b) :: st) h)
  | .idiv => m2i st (fun a b st => if b = 0 then none else nx ls (.int (a / b) :: st) h)
  | .irem => m2i st (fun a b st => if b = 0 then none else nx ls (.int (a - a / b * b) :: st) h)
  | .ineg => m1i st (fun a st => nx ls (.int (-a) :: st) h)
  | .ishl => m2i st (fun a b st => nx ls (.int (a <<< (b &&& 31)) :: st) h)
  | .ishr => m2i st (fun a b st => nx ls (.int (a >>> (b &&& 31)) :: st) h)
  | .iushr => m2i st (fun a b st => nx ls (.int (a.toUInt32 >>> (b.toUInt32 &&& Int32.toUInt32 31)).toInt32 :: st) h)
  | .ladd => m2l st (fun a b st => nx ls (.long (a + b) :: st) h)
  | .lsub => m2l st (fun a b st => nx ls (.long (a - b) :: st) h)
  | .lmul => m2l st (fun a b st => nx ls (.long (a * b) :: st) h)
  | .land => m2l st (fun a b st => nx ls (.long (a &&& b) :: st) h)
  | .lor => m2l st (fun a b st => nx ls (.long (a ||| b) :: st) h)
  | .ldiv => m2l st (fun a b st => if b = 0 then none else nx ls (.long (a / b) :: st) h)
  | .lrem => m2l st (fun a b st => if b = 0 then none else nx ls (.long (a - a / b * b) :: st) h)
  | .lshl => mli st (fun a b st => nx ls (.long (a <<< (b.toInt64 &&& 63)) :: st) h)
  | .lshr => mli st (fun a b st => nx ls (.long (a >>> (b.toInt64 &&& 63)) :: st) h)
  | .lushr => mli st (fun a b st => nx ls (.long (a.toUInt64 >>> (b.toInt64.toUInt64 &&& Int64.toUInt64 63)).toInt64 :: st) h)
  | .lcmp => m2l st (fun a b st => nx ls (.int (lg_cmp a b) :: st) h)
  | .i2l => m1i st (fun a st => nx ls (.long a.toInt64 :: st) h)
  | .l2i => m1l st (fun a st => nx ls (.int a.toInt32 :: st) h)
  | .dup => mv1 st (fun v st => nx ls (v :: v :: st) h)
  | .pop => mv1 st (fun _ st => nx ls st h)
  | .dup2 => mv2 st (fun v w st => nx ls (v :: w :: v :: w :: st) h)
  | .ifCond c _ => m1i st (fun a st => match c with
    | .eq => if a = 0 then K x (mnorm (mlook cm x) ls) st h else nx ls st h
    | .ne => if a = 0 then nx ls st h else K x (mnorm (mlook cm x) ls) st h
    | .lt => if a < 0 then K x (mnorm (mlook cm x) ls) st h else nx ls st h
    | .ge => if 0 ≤ a then K x (mnorm (mlook cm x) ls) st h else nx ls st h
    | .gt => if 0 < a then K x (mnorm (mlook cm x) ls) st h else nx ls st h
    | .le => if a ≤ 0 then K x (mnorm (mlook cm x) ls) st h else nx ls st h)
  | .if_icmp c _ => m2i st (fun a b st => match c with
    | .eq => if a = b then K x (mnorm (mlook cm x) ls) st h else nx ls st h
    | .ne => if a = b then nx ls st h else K x (mnorm (mlook cm x) ls) st h
    | .lt => if a < b then K x (mnorm (mlook cm x) ls) st h else nx ls st h
    | .ge => if b ≤ a then K x (mnorm (mlook cm x) ls) st h else nx ls st h
    | .gt => if b < a then K x (mnorm (mlook cm x) ls) st h else nx ls st h
    | .le => if a ≤ b then K x (mnorm (mlook cm x) ls) st h else nx ls st h)
  | .goto _ => K x (mnorm (mlook cm x) ls) st h
  | .ifnull _ => mnul st (fun st => nx ls st h) (fun st => K x (mnorm (mlook cm x) ls) st h)
  | .ifnonnull _ => mnul st (fun st => K x (mnorm (mlook cm x) ls) st h) (fun st => nx ls st h)
  | .tableswitch d lo _ os => m1i st (fun v st => mtsw pc d v (fun c => K c (mnorm (mlook cm c) ls) st h) lo os.toList)
  | .getfield _ => m1r st (fun a st => gk h.1 a (x + 1) (match mfk x y with
    | 2 => gr h.1 a y (fun b => nx ls (.ref b :: st) h)
    | _ => nx ls (.int (h.2.1 a y) :: st) h))
  | .putfield _ => (match mfk x y with
    | 2 => mrr st (fun a b st => gk h.1 a (x + 1) (nx ls st (gS h.1 a y (some b), h.2.1, h.2.2)))
    | 1 => mri st (fun a v st => gk h.1 a (x + 1) (mbool v (nx ls st (h.1, up2 h.2.1 a y v, h.2.2))))
    | _ => mri st (fun a v st => gk h.1 a (x + 1) (nx ls st (h.1, up2 h.2.1 a y v, h.2.2))))
  | .iaload => mri st (fun a i st => gx h.1 a x i (fun j => nx ls (.int (h.2.1 a j) :: st) h))
  | .iastore => mrii st (fun a i v st => gx h.1 a 20 i (fun j => nx ls st (h.1, up2 h.2.1 a j v, h.2.2)))
  | .laload => mri st (fun a i st => gx h.1 a 21 i (fun j => nx ls (.long (h.2.2 a j) :: st) h))
  | .lastore => mril st (fun a i v st => gx h.1 a 21 i (fun j => nx ls st (h.1, h.2.1, up2 h.2.2 a j v)))
  | .aaload => mri st (fun a i st => gx h.1 a 22 i (fun j => gy h.1 a j (fun b => nx ls (.ref b :: st) h) (nx ls (.null :: st) h)))
  | .aastore => mrir st (fun a i v st => gx h.1 a 22 i (fun j => gk h.1 v 6 (nx ls st (gS h.1 a j (some v), h.2.1, h.2.2))))
  | .arraylength => m1r st (fun a st => gk h.1 a x (nx ls (.int (Int32.ofNat (gN h.1 a)) :: st) h))
  | .new _ => (match y with
    | 0 => nx ls (.ref h.1.1 :: st) (hA h (x + 1) 0 (mft.getD x []).length)
    | _ => (match st with
      | [] => some (.inr (mexn x), h)
      | _ => none))
  | .newarray _ => mnewA (fun st h => nx ls st h) x st h
  | .anewarray _ => mnewA (fun st h => nx ls st h) 22 st h
  | .invokevirtual _ => minv cal (mexc hd cm K pc ls) (fun st h => nx ls st h) x y st h
  | .invokestatic _ => minv cal (mexc hd cm K pc ls) (fun st h => nx ls st h) x y st h
  | .invokespecial _ => minv cal (mexc hd cm K pc ls) (fun st h => nx ls st h) x y st h
  | .ireturn => (match st with
    | [.int v] => (match x with
      | 0 => some (.inl (some (.int v)), h)
      | _ => mbool v (some (.inl (some (.int v)), h)))
    | _ => none)
  | .lreturn => (match st with
    | [.long v] => some (.inl (some (.long v)), h)
    | _ => none)
  | .return_ => (match st with
    | [] => some (.inl none, h)
    | _ => none)
  | _ => none
def mblk (cal : mC) (hd : mHd) (cm : mCm) (K : mS) : List mRow → List Value → List Value → mH → Option mO
  | [], _, _, _ => none
  | r :: rs, ls, st, h => mstep cal hd cm K (fun ls st h => match rs with
    | [] => none
    | q :: _ => (match q.2.2.2.2.2.1 with
      | 0 => mblk cal hd cm K rs ls st h
      | _ => K q.1 (mnorm (mlook cm q.1) ls) st h)) r.1 r.2.1 r.2.2.1 r.2.2.2.1 r.2.2.2.2.2.2.1 r.2.2.2.2.2.2.2 ls st h
def msfx (c : Nat) : List mRow → List mRow
  | [] => []
  | r :: rs => if r.1 = c then r :: rs else msfx c rs
def mrun (cal : mC) (hd : mHd) (cm : mCm) (code : List mRow) : Nat → mS
  | 0 => fun _ _ _ _ => none
  | n + 1 => fun c ls st h => mblk cal hd cm (mrun cal hd cm code n) (msfx c code) ls st h
