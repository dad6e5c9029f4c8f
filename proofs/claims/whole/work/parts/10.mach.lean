/-! THE PURE MACHINE: values, heaps of numbers, a step of an instruction, the run of a stretch between two cuts. -/
section ZM
/-- int, long, a truth (0 or 1), a reference: its kind, its length (of an array), its cell -/
abbrev zV : Type := Int ⊕ Int ⊕ Int ⊕ (Nat × Nat × Nat)
/-- a heap: cell, slot, number -/
abbrev zH : Type := Nat → Nat → Int
abbrev zR : Type := Option (zH × Int)
abbrev zL : Type := List (Nat × zV)
abbrev zS : Type := zL × List zV × zH
abbrev zC : Type := PSigma (fun c : Prop => Decidable c)
/-- go on; end; call (method, rank, kind of answer, arguments); branch; switch -/
abbrev zO : Type := (Nat × zS) ⊕ Int ⊕ (Nat × Nat × Nat × List zV × zS) ⊕ (zC × Nat × zS) ⊕ (Int × List (Int × Nat) × Nat × zS)
abbrev zI : Type := Instr × Nat × Option (List Nat) × List Nat
def w32 (x : Int) : Int := x.bmod 4294967296
def w64 (x : Int) : Int := x.bmod 18446744073709551616
def w8 (x : Int) : Int := x.bmod 256
def zand (a b : Int) : Int := (Int32.ofInt a &&& Int32.ofInt b).toInt
def zor (a b : Int) : Int := (Int32.ofInt a ||| Int32.ofInt b).toInt
def zxor (a b : Int) : Int := (Int32.ofInt a ^^^ Int32.ofInt b).toInt
def zshl (a b : Int) : Int := (Int32.ofInt a <<< (Int32.ofInt b &&& 31)).toInt
def zshr (a b : Int) : Int := (Int32.ofInt a >>> (Int32.ofInt b &&& 31)).toInt
def zushr (a b : Int) : Int := ((Int32.ofInt a).toUInt32 >>> ((Int32.ofInt b).toUInt32 &&& Int32.toUInt32 31)).toInt32.toInt
def zlshl (a b : Int) : Int := (Int64.ofInt a <<< ((Int32.ofInt b).toInt64 &&& 63)).toInt
def zlor (a b : Int) : Int := (Int64.ofInt a ||| Int64.ofInt b).toInt
def zcmp (a b : Int) : Int := if b < a then 1 else if a = b then 0 else -1
def zmin (a b : Int) : Int := if b < a then b else a
def zset (σ : zH) (k i : Nat) (v : Int) : zH := fun k' i' => if k' = k ∧ i' = i then v else σ k' i'
def zcp (σ : zH) (s sp d dp n : Nat) : zH := fun k' i' => if k' = d ∧ dp ≤ i' ∧ i' < dp + n then σ s (sp + (i' - dp)) else σ k' i'
/-- a place of a row of n -/
def zin (i : Int) (n : Nat) : Bool := match i with
  | .ofNat a => Nat.blt a n
  | .negSucc _ => false
def znz (x : Int) : Bool := match x with
  | .ofNat a => !(Nat.beq a 0)
  | .negSucc _ => true
def zbl (x : Int) : Bool := match x with
  | .ofNat a => Nat.beq a 0 || Nat.beq a 1
  | .negSucc _ => false
def zcg (sp : Int) (n0 : Nat) (dp : Int) (n1 : Nat) (n : Int) : Bool := match sp, dp, n with
  | .ofNat a, .ofNat b, .ofNat c => Nat.ble (a + c) n0 && Nat.ble (b + c) n1
  | _, _, _ => false
def zmem (x : Nat) : List Nat → Bool
  | [] => false
  | y :: t => Nat.beq x y || zmem x t
/-- the cells of the objects of a class -/
def zids (c : Nat) : List Nat := match c with
  | 0 => [160] | 1 => [384, 448, 704, 960] | 2 => [32] | 3 => [320] | 4 => [352] | 5 => [640, 896] | 6 => [416, 480, 736, 992] | 7 => [512, 544, 800, 1056] | 8 => [96, 128, 192, 224, 256, 288, 768, 1024] | 9 => [64] | 10 => [0] | _ => []
def zio (c : Nat) (x : Int) : Bool := match x with
  | .ofNat a => zmem a (zids c)
  | .negSucc _ => false
/-- how long the history of a stream is -/
def zhl (k : Nat) : Nat := cond (Nat.beq k 96 || (Nat.beq k 768 || Nat.beq k 1024)) 400 0
def zkwl : List Int := [1852798318, 1986359906, 1818848101, 1937010544, 491327153000, 1768846447, 1935767923, 111481940373362, 126943972911973, 1953854062, 1953462126, 499851162725, 6578553, 491327153267, 1852796517, 512735536499, 126909394808947, 28530, 6385252, 7237492, 28526, 495622976357, 24948, 512970876019, 465625113956, 121450625394034]
def zkw (i : Nat) : Int := zkwl.getD i 0
def zssl : List Int := [1, -1, 0, -1, -1, 2, -1, -1, 4, -1, 3, 0, 4, -1, 3, -1, -1, -1, -1, 0]
def zss (i : Nat) : Int := zssl.getD i 0
def zvc (v : zV) : Nat := match v with
  | .inr (.inl _) => 2
  | _ => 1
def zgi (v : zV) : Option Int := match v with
  | .inl x => some x
  | .inr (.inr (.inl x)) => some x
  | _ => none
/-- a truth is an int from a cut on -/
def zco (v : zV) : zV := match v with
  | .inr (.inr (.inl x)) => .inl x
  | v => v
def zlook (n : Nat) : zL → Option zV
  | [] => none
  | (i, v) :: t => match Nat.beq i n with
    | true => some v
    | false => zlook n t
def zpick (L : zL) : List Nat → Option (List zV)
  | [] => some []
  | i :: t => match zlook i L with
    | none => none
    | some v => match zpick L t with
      | none => none
      | some vs => some (zco v :: vs)
def zst1 (i : Nat) (v : zV) (L : zL) : zL := (i, v) :: L.filter (fun q => !(Nat.beq q.1 i) && !(Nat.beq (q.1 + 1) i && Nat.beq (zvc q.2) 2))
def zst2 (i : Nat) (v : zV) (L : zL) : zL := (i, v) :: L.filter (fun q => !(Nat.beq q.1 i) && (!(Nat.beq q.1 (i + 1)) && !(Nat.beq (q.1 + 1) i && Nat.beq (zvc q.2) 2)))
def zpop : Nat → List zV → List zV → Option (List zV × List zV)
  | 0, acc, st => some (acc, st)
  | _ + 1, _, [] => none
  | n + 1, acc, v :: st => zpop n (v :: acc) st
/-- how many words a stack holds -/
def zwd : List zV → Nat
  | [] => 0
  | v :: t => zvc v + zwd t
/-- a link of a class file: its number; 0 a field (class, slot), 1 a method (which, how many arguments, answer, receiver's class and 1, rank), 2 a static row, 3 an int, 4 a long, 5 arraycopy, 6 min, 7 a method of the group -/
abbrev zK : Type := Nat × Nat × Nat × Nat × Nat × Nat × Int
def zlk (idx : Nat) : List (Nat × zK) → Option zK
  | [] => none
  | (i, r) :: t => match Nat.beq i idx with
    | true => some r
    | false => zlk idx t
def zcd (c : Jvm.ClassFile.Cond) (a b : Int) : zC := match c with
  | .eq => ⟨a = b, inferInstance⟩
  | .ne => ⟨¬ a = b, inferInstance⟩
  | .lt => ⟨a < b, inferInstance⟩
  | .ge => ⟨b ≤ a, inferInstance⟩
  | .gt => ⟨b < a, inferInstance⟩
  | .le => ⟨a ≤ b, inferInstance⟩
def ztgt (pc : Nat) (off : Int) : Nat := (Int.ofNat pc + off).toNat
def ztab (pc : Nat) : Int → List Int → List (Int × Nat)
  | _, [] => []
  | x, o :: t => (x, ztgt pc o) :: ztab pc (x + 1) t
def zar (args : List zV) : Nat := match args with
  | _ :: _ :: _ :: .inl a :: _ => 9 - a.toNat
  | _ => 0
/-- an int operation of two -/
def zb2 (f : Int → Int → Int) (n : Nat) (L : zL) (st : List zV) (σ : zH) : Option (Bool × zO) := match st with
  | b :: a :: r => match zgi a, zgi b with
    | some x, some y => some (true, .inl (n, L, .inl (f x y) :: r, σ))
    | _, _ => none
  | _ => none
def zl2 (f : Int → Int → Int) (n : Nat) (L : zL) (st : List zV) (σ : zH) : Option (Bool × zO) := match st with
  | .inr (.inl y) :: .inr (.inl x) :: r => some (true, .inl (n, L, .inr (.inl (f x y)) :: r, σ))
  | _ => none
def zldi (i n : Nat) (L : zL) (st : List zV) (σ : zH) : Option (Bool × zO) := match zlook i L with
  | some (.inl x) => some (true, .inl (n, L, .inl x :: st, σ))
  | some (.inr (.inr (.inl x))) => some (true, .inl (n, L, .inr (.inr (.inl x)) :: st, σ))
  | _ => none
def zldl (i n : Nat) (L : zL) (st : List zV) (σ : zH) : Option (Bool × zO) := match zlook i L with
  | some (.inr (.inl x)) => some (true, .inl (n, L, .inr (.inl x) :: st, σ))
  | _ => none
def zlda (i n : Nat) (L : zL) (st : List zV) (σ : zH) : Option (Bool × zO) := match zlook i L with
  | some (.inr (.inr (.inr q))) => some (true, .inl (n, L, .inr (.inr (.inr q)) :: st, σ))
  | _ => none
def zsti (i n : Nat) (L : zL) (st : List zV) (σ : zH) : Option (Bool × zO) := match st with
  | .inl x :: r => some (true, .inl (n, zst1 i (.inl x) L, r, σ))
  | .inr (.inr (.inl x)) :: r => some (true, .inl (n, zst1 i (.inr (.inr (.inl x))) L, r, σ))
  | _ => none
def zstl (i n : Nat) (L : zL) (st : List zV) (σ : zH) : Option (Bool × zO) := match st with
  | .inr (.inl x) :: r => some (true, .inl (n, zst2 i (.inr (.inl x)) L, r, σ))
  | _ => none
def zsta (i n : Nat) (L : zL) (st : List zV) (σ : zH) : Option (Bool × zO) := match st with
  | .inr (.inr (.inr q)) :: r => some (true, .inl (n, zst1 i (.inr (.inr (.inr q))) L, r, σ))
  | _ => none
/-- what a field is: 0 int, 1 long, 2 a truth, 3 a reference that changes (class), 4 an object that stays (how far, class), 5 a row that stays (its kind, its length) -/
abbrev zF : Type := Nat × Nat × Nat
def zget (zfi : Nat → Nat → zF) (ci slot n : Nat) (L : zL) (st : List zV) (σ : zH) : Option (Bool × zO) := match st with
  | .inr (.inr (.inr (c, _, k))) :: r => match Nat.beq c ci with
    | false => none
    | true => match zfi ci slot with
      | (0, _, _) => some (true, .inl (n, L, .inl (σ k slot) :: r, σ))
      | (1, _, _) => some (true, .inl (n, L, .inr (.inl (σ k slot)) :: r, σ))
      | (2, _, _) => some (true, .inl (n, L, .inr (.inr (.inl (σ k slot))) :: r, σ))
      | (3, a, _) => some (zio a (σ k slot), .inl (n, L, .inr (.inr (.inr (a, 0, (σ k slot).toNat))) :: r, σ))
      | (4, a, b) => some (true, .inl (n, L, .inr (.inr (.inr (b, 0, k + a))) :: r, σ))
      | (5, a, b) => some (true, .inl (n, L, .inr (.inr (.inr (100 + a, b, k + (1 + slot)))) :: r, σ))
      | (6, a, _) => some (true, .inl (n, L, .inr (.inr (.inr (100 + a, zhl k, k + (1 + slot)))) :: r, σ))
      | _ => none
  | _ => none
def zput (zfi : Nat → Nat → zF) (ci slot n : Nat) (L : zL) (st : List zV) (σ : zH) : Option (Bool × zO) := match st with
  | v :: .inr (.inr (.inr (c, _, k))) :: r => match Nat.beq c ci with
    | false => none
    | true => match zfi ci slot, v with
      | (0, _, _), .inl x => some (true, .inl (n, L, r, zset σ k slot x))
      | (0, _, _), .inr (.inr (.inl x)) => some (true, .inl (n, L, r, zset σ k slot x))
      | (1, _, _), .inr (.inl x) => some (true, .inl (n, L, r, zset σ k slot x))
      | (2, _, _), .inl x => some (zbl x, .inl (n, L, r, zset σ k slot x))
      | (2, _, _), .inr (.inr (.inl x)) => some (true, .inl (n, L, r, zset σ k slot x))
      | (3, a, _), .inr (.inr (.inr (d, _, q))) => match Nat.beq d a with
        | true => some (true, .inl (n, L, r, zset σ k slot (Int.ofNat q)))
        | false => none
      | _, _ => none
  | _ => none
def zald (n : Nat) (op : Nat) (L : zL) (st : List zV) (σ : zH) : Option (Bool × zO) := match st with
  | .inl i :: .inr (.inr (.inr (ty, len, k))) :: r => match op, ty with
    | 0, 100 => some (zin i len, .inl (n, L, .inl (σ k i.toNat) :: r, σ))
    | 0, 201 => some (zin i len, .inl (n, L, .inl (zss i.toNat) :: r, σ))
    | 1, 101 => some (zin i len, .inl (n, L, .inr (.inl (σ k i.toNat)) :: r, σ))
    | 1, 200 => some (zin i len, .inl (n, L, .inr (.inl (zkw i.toNat)) :: r, σ))
    | 2, 102 => some (zin i len, .inl (n, L, .inl (σ k i.toNat) :: r, σ))
    | 2, 103 => some (zin i len, .inl (n, L, .inr (.inr (.inl (σ k i.toNat))) :: r, σ))
    | 3, 115 => some (zin i len && zio 5 (σ k i.toNat), .inl (n, L, .inr (.inr (.inr (5, 0, (σ k i.toNat).toNat))) :: r, σ))
    | 3, 118 => some (zin i len && zio 8 (σ k i.toNat), .inl (n, L, .inr (.inr (.inr (8, 0, (σ k i.toNat).toNat))) :: r, σ))
    | _, _ => none
  | _ => none
def zast (n : Nat) (op : Nat) (L : zL) (st : List zV) (σ : zH) : Option (Bool × zO) := match st with
  | v :: .inl i :: .inr (.inr (.inr (ty, len, k))) :: r => match op, ty, v with
    | 0, 100, .inl x => some (zin i len, .inl (n, L, r, zset σ k i.toNat x))
    | 1, 101, .inr (.inl x) => some (zin i len, .inl (n, L, r, zset σ k i.toNat x))
    | 2, 102, .inl x => some (zin i len, .inl (n, L, r, zset σ k i.toNat (w8 x)))
    | 2, 103, .inl x => some (zbl x && zin i len, .inl (n, L, r, zset σ k i.toNat x))
    | 2, 103, .inr (.inr (.inl x)) => some (zin i len, .inl (n, L, r, zset σ k i.toNat x))
    | 3, 118, .inr (.inr (.inr (8, _, q))) => some (zin i len, .inl (n, L, r, zset σ k i.toNat (Int.ofNat q)))
    | _, _, _ => none
  | _ => none
def zinv (rk : Nat) (e : zK) (n : Nat) (virt : Bool) (L : zL) (st : List zV) (σ : zH) : Option (Bool × zO) := match e with
  | (tag, a, b, c, d, r, _) => match tag, virt with
    | 5, false => match st with
      | .inl m :: .inl dp :: .inr (.inr (.inr (t1, n1, k1))) :: .inl sp :: .inr (.inr (.inr (t0, n0, k0))) :: rest => match Nat.beq t0 t1 && ((Nat.beq t0 100 || Nat.beq t0 101) && (Nat.ble (zwd rest) 8 && Nat.blt 0 rk)) with
        | true => some (zcg sp n0 dp n1 m, .inl (n, L, rest, zcp σ k0 sp.toNat k1 dp.toNat m.toNat))
        | false => none
      | _ => none
    | 6, false => match Nat.ble (zwd st) 8 && Nat.blt 0 rk with
      | true => zb2 zmin n L st σ
      | false => none
    | 1, _ => match zpop b [] st with
      | some (args, rest) => match virt, args with
        | true, .inr (.inr (.inr (c0, l0, k0))) :: t => match Nat.beq (c0 + 1) d with
          | true => some (true, .inr (.inr (.inl (a, r, c, .inr (.inr (.inr (c0, l0, k0))) :: t, L, rest, σ))))
          | false => none
        | false, args => match Nat.beq d 0 with
          | true => some (true, .inr (.inr (.inl (a, r, c, args, L, rest, σ))))
          | false => none
        | _, _ => none
      | none => none
    | 7, true => match zpop b [] st with
      | some (.inr (.inr (.inr (c0, l0, k0))) :: t, rest) => match Nat.beq (c0 + 1) d with
        | true => some (true, .inr (.inr (.inl (a, r + 3 * zar (.inr (.inr (.inr (c0, l0, k0))) :: t), c, .inr (.inr (.inr (c0, l0, k0))) :: t, L, rest, σ))))
        | false => none
      | _ => none
    | _, _ => none
/-- one instruction of a method: own class' links, its kind of answer, the place behind it -/
def zst (zfi : Nat → Nat → zF) (lks : List (Nat × zK)) (mr rk pc len : Nat) (i : Instr) (L : zL) (st : List zV) (σ : zH) : Option (Bool × zO) := match i with
  | .iconst x => some (true, .inl (pc + len, L, .inl x :: st, σ))
  | .bipush x => some (true, .inl (pc + len, L, .inl x :: st, σ))
  | .sipush x => some (true, .inl (pc + len, L, .inl x :: st, σ))
  | .lconst x => some (true, .inl (pc + len, L, .inr (.inl (Int.ofNat x.val)) :: st, σ))
  | .ldc idx => match zlk idx lks with
    | some (3, _, _, _, _, _, x) => some (true, .inl (pc + len, L, .inl x :: st, σ))
    | _ => none
  | .ldc_w idx => match zlk idx lks with
    | some (3, _, _, _, _, _, x) => some (true, .inl (pc + len, L, .inl x :: st, σ))
    | _ => none
  | .ldc2_w idx => match zlk idx lks with
    | some (4, _, _, _, _, _, x) => some (true, .inl (pc + len, L, .inr (.inl x) :: st, σ))
    | _ => none
  | .iload k => zldi k (pc + len) L st σ
  | .iload_n k => zldi k.val (pc + len) L st σ
  | .aload k => zlda k (pc + len) L st σ
  | .aload_n k => zlda k.val (pc + len) L st σ
  | .lload k => zldl k (pc + len) L st σ
  | .lload_n k => zldl k.val (pc + len) L st σ
  | .istore k => zsti k (pc + len) L st σ
  | .istore_n k => zsti k.val (pc + len) L st σ
  | .lstore k => zstl k (pc + len) L st σ
  | .lstore_n k => zstl k.val (pc + len) L st σ
  | .astore k => zsta k (pc + len) L st σ
  | .astore_n k => zsta k.val (pc + len) L st σ
  | .iinc k x => match zlook k L with
    | some (.inl y) => some (true, .inl (pc + len, zst1 k (.inl (w32 (y + x))) L, st, σ))
    | _ => none
  | .iadd => zb2 (fun a b => w32 (a + b)) (pc + len) L st σ
  | .isub => zb2 (fun a b => w32 (a - b)) (pc + len) L st σ
  | .imul => zb2 (fun a b => w32 (a * b)) (pc + len) L st σ
  | .iand => zb2 zand (pc + len) L st σ
  | .ior => zb2 zor (pc + len) L st σ
  | .ixor => zb2 zxor (pc + len) L st σ
  | .ishl => zb2 zshl (pc + len) L st σ
  | .ishr => zb2 zshr (pc + len) L st σ
  | .iushr => zb2 zushr (pc + len) L st σ
  | .idiv => match st with
    | .inl y :: .inl x :: r => some (znz y, .inl (pc + len, L, .inl (w32 (Int.tdiv x y)) :: r, σ))
    | _ => none
  | .irem => match st with
    | .inl y :: .inl x :: r => some (znz y, .inl (pc + len, L, .inl (Int.tmod x y) :: r, σ))
    | _ => none
  | .ineg => match st with
    | .inl x :: r => some (true, .inl (pc + len, L, .inl (w32 (- x)) :: r, σ))
    | _ => none
  | .i2l => match st with
    | .inl x :: r => some (true, .inl (pc + len, L, .inr (.inl x) :: r, σ))
    | _ => none
  | .i2b => match st with
    | .inl x :: r => some (true, .inl (pc + len, L, .inl (w8 x) :: r, σ))
    | _ => none
  | .lmul => zl2 (fun a b => w64 (a * b)) (pc + len) L st σ
  | .lor => zl2 zlor (pc + len) L st σ
  | .lshl => match st with
    | .inl y :: .inr (.inl x) :: r => some (true, .inl (pc + len, L, .inr (.inl (zlshl x y)) :: r, σ))
    | _ => none
  | .lcmp => match st with
    | .inr (.inl y) :: .inr (.inl x) :: r => some (true, .inl (pc + len, L, .inl (zcmp x y) :: r, σ))
    | _ => none
  | .dup => match st with
    | v :: r => match Nat.beq (zvc v) 1 with
      | true => some (true, .inl (pc + len, L, v :: v :: r, σ))
      | false => none
    | _ => none
  | .dup2 => match st with
    | v :: u :: r => match Nat.beq (zvc v) 1 && Nat.beq (zvc u) 1 with
      | true => some (true, .inl (pc + len, L, v :: u :: v :: u :: r, σ))
      | false => none
    | _ => none
  | .pop => match st with
    | v :: r => match Nat.beq (zvc v) 1 with
      | true => some (true, .inl (pc + len, L, r, σ))
      | false => none
    | _ => none
  | .getstatic idx => match zlk idx lks with
    | some (2, a, b, _, _, _, _) => some (true, .inl (pc + len, L, .inr (.inr (.inr (a, b, 0))) :: st, σ))
    | _ => none
  | .getfield idx => match zlk idx lks with
    | some (0, ci, slot, _, _, _, _) => zget zfi ci slot (pc + len) L st σ
    | _ => none
  | .putfield idx => match zlk idx lks with
    | some (0, ci, slot, _, _, _, _) => zput zfi ci slot (pc + len) L st σ
    | _ => none
  | .iaload => zald (pc + len) 0 L st σ
  | .laload => zald (pc + len) 1 L st σ
  | .baload => zald (pc + len) 2 L st σ
  | .aaload => zald (pc + len) 3 L st σ
  | .iastore => zast (pc + len) 0 L st σ
  | .lastore => zast (pc + len) 1 L st σ
  | .bastore => zast (pc + len) 2 L st σ
  | .aastore => zast (pc + len) 3 L st σ
  | .arraylength => match st with
    | .inr (.inr (.inr (ty, n, _))) :: r => match Nat.ble 100 ty with
      | true => some (true, .inl (pc + len, L, .inl (Int.ofNat n) :: r, σ))
      | false => none
    | _ => none
  | .goto o => some (true, .inl (ztgt pc o, L, st, σ))
  | .ifCond c o => match st with
    | v :: r => match zgi v with
      | some x => some (true, .inr (.inr (.inr (.inl (zcd c x 0, ztgt pc o, L, r, σ)))))
      | none => none
    | _ => none
  | .if_icmp c o => match st with
    | b :: a :: r => match zgi a, zgi b with
      | some x, some y => some (true, .inr (.inr (.inr (.inl (zcd c x y, ztgt pc o, L, r, σ)))))
      | _, _ => none
    | _ => none
  | .tableswitch d lo _ offs => match st with
    | .inl x :: r => some (true, .inr (.inr (.inr (.inr (x, ztab pc lo offs.toList, ztgt pc d, L, r, σ)))))
    | _ => none
  | .lookupswitch d ps => match st with
    | .inl x :: r => some (true, .inr (.inr (.inr (.inr (x, ps.toList.map (fun q => (q.1, ztgt pc q.2)), ztgt pc d, L, r, σ)))))
    | _ => none
  | .ireturn => match mr, st with
    | 1, [.inl x] => some (true, .inr (.inl x))
    | 1, [.inr (.inr (.inl x))] => some (true, .inr (.inl x))
    | 3, [.inl x] => some (zbl x, .inr (.inl x))
    | 3, [.inr (.inr (.inl x))] => some (true, .inr (.inl x))
    | _, _ => none
  | .lreturn => match mr, st with
    | 2, [.inr (.inl x)] => some (true, .inr (.inl x))
    | _, _ => none
  | .return_ => match mr, st with
    | 0, [] => some (true, .inr (.inl 0))
    | _, _ => none
  | .invokevirtual idx => match zlk idx lks with
    | some e => zinv rk e (pc + len) true L st σ
    | none => none
  | .invokestatic idx => match zlk idx lks with
    | some e => zinv rk e (pc + len) false L st σ
    | none => none
  | _ => none
def zpush (mr : Nat) (x : Int) (st : List zV) : Option (List zV) := match mr with
  | 0 => some st
  | 1 => some (.inl x :: st)
  | 2 => some (.inr (.inl x) :: st)
  | 3 => some (.inr (.inr (.inl x)) :: st)
  | _ => none
abbrev zB : Type := Nat → Nat → Nat → List zV → List zV → zH → zR
def zsw (x : Int) (dflt : zR) : List (Int × zR) → zR
  | [] => dflt
  | (k, r) :: t => if x = k then r else zsw x dflt t
/-- what becomes of an instruction's step: K goes on at a later place -/
def zact (back : zB) (K : Nat → zL → List zV → zH → zR) (mid rk pc nx : Nat) (bl : List Nat) (o : Option (Bool × zO)) : zR := match o with
  | none => none
  | some (g, o) => if g = true then (match o with
    | .inl (t, L, st, σ) => (match Nat.ble t pc with
      | true => (match zpick L bl with
        | some vs => back mid t rk vs (st.map zco) σ
        | none => none)
      | false => K t L st σ)
    | .inr (.inl _) => none
    | .inr (.inr (.inl (cm, cr, ck, args, L, st, σ))) => (match Nat.ble (zwd st) 8 with
      | true => cond (Nat.blt cr rk) ((back cm 0 cr (args.map zco) [] σ).bind (fun r => match zpush ck r.2 st with
        | some st => K nx L st r.1
        | none => none)) none
      | false => none)
    | .inr (.inr (.inr (.inl (c, t, L, st, σ)))) => @ite zR c.1 c.2 (match Nat.ble t pc with
      | true => (match zpick L bl with
        | some vs => back mid t rk vs (st.map zco) σ
        | none => none)
      | false => K t L st σ) (K nx L st σ)
    | .inr (.inr (.inr (.inr (x, ps, d, L, st, σ)))) => zsw x (K d L st σ) (ps.map (fun q => (q.1, K q.2 L st σ)))) else none
/-- an end, or what zact says -/
def zlast (back : zB) (K : Nat → zL → List zV → zH → zR) (mid rk pc nx : Nat) (bl : List Nat) (σ : zH) (o : Option (Bool × zO)) : zR := match o with
  | some (g, .inr (.inl x)) => if g = true then some (σ, x) else none
  | o => zact back K mid rk pc nx bl o
/-- the run of a stretch: from the instruction at pc on (those ahead of 'to' are passed over), up to a cut -/
def zrun (zfi : Nat → Nat → zF) (back : zB) (lks : List (Nat × zK)) (mid mr rk : Nat) : List zI → Nat → Nat → Bool → zL → List zV → zH → zR
  | [], _, _, _, _, _, _ => none
  | (i, len, cut, bl) :: tl, pc, to, first, L, st, σ => match Nat.blt pc to with
    | true => zrun zfi back lks mid mr rk tl (pc + len) to false L st σ
    | false => match Nat.beq pc to with
      | false => none
      | true => match first, cut with
        | false, some lv => match zpick L lv with
          | some vs => back mid pc rk vs (st.map zco) σ
          | none => none
        | _, _ => zlast back (fun t L st σ => zrun zfi back lks mid mr rk tl (pc + len) t false L st σ) mid rk pc (pc + len) bl σ (zst zfi lks mr rk pc len i L st σ)
def zarg : Nat → List zV → zL
  | _, [] => []
  | i, v :: t => (i, v) :: zarg (i + zvc v) t
def zent (pc : Nat) (idxs : List Nat) (vs : List zV) : zL := match pc with
  | 0 => zarg 0 vs
  | _ + 1 => idxs.zip vs
end ZM
