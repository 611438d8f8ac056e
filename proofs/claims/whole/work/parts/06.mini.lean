/-! the small machine: a Prop that runs by reduction. I: int fields, A: int (byte, boolean) arrays, B: long arrays, P: reference fields.
Values: .ref k is the cell k of the store; .retAddr 0 the law's script (its ints: row 900 of A, its length: field (900, 0) of I), .retAddr (1 + i) the text i, .retAddr (101 + i) its bytes, .retAddr 999 a formatter; .float 0 a place that holds nothing -/
abbrev mI : Type := Nat → Nat → Int32
abbrev mB : Type := Nat → Nat → Int64
abbrev mP : Type := Nat → Nat → Option Nat
abbrev mR : Type := Option Value → mI → mI → mB → mP → Prop
abbrev mJ : Type := Nat → Nat → List Value → List Value → mI → mI → mB → mP → mR → Prop
abbrev mK : Type := Nat → List Value → List Value → mI → mI → mB → mP → Prop
abbrev mC : Type := Nat → List Value → mI → mI → mB → mP → mR → Prop
def up2 {α : Type} (f : Nat → Nat → α) (k j : Nat) (v : α) : Nat → Nat → α := fun a c => if a = k ∧ c = j then v else f a c
def up1 {α : Type} (f : Nat → Nat → α) (k : Nat) (g : Nat → α) : Nat → Nat → α := fun a c => if a = k then g c else f a c
/-- which methods go in when called -/
def inlL : List (List Bool) := [[false, false, false, true, false, true, false, false, false, true, true, false, false, false, false, false, false, true, false, true],
  [false, false, false, true, true, true, true, true, true, true, true, true, true, false, false, true, false, true, false, true],
  [false, false, false, false, false, false, false, false, true, true, true, true, false, false, false, false, false, true, false, false],
  [true, false, true, false, true, false, false, true, false, false, false, true, false, true, false, false, false, false, false, false],
  [false, false, true, false, false, false, true, false, true, true, true, true, true, true, true, true, false, false, true, true],
  [true, false, false, false, false, false, false, false, false, false, false, false, false, false, false, true, true, false, false, false],
  [false, false, false, true, true, false, false, false, false, false, false, false, true, false, true, false, false, false, false, true],
  [false, false, true, false, false, false, false, false, false, false, false, false, false, false, false, false, false, false, true, false],
  [false, false, true, false, false, true, false, false, false, false, false, true, false, false, false, true, true, false, false, true],
  [false, false, true, false, false, false, false, false, false, false, true, false, false, false, false, false, false, false, false, false],
  [false, false, false, true, false, false, false, true, false, false, false, true, false, false, false, false, false, false, false, false],
  [false, false, false, false, false, false, false, false, false, false, false, false, false, false, true, false, false, false, false, false],
  [false, false, false, true, false, false, true, false, false, false, false, false, false, true, false, false, false, false, false, false],
  [false, false, false, false, false, false, false, false, false, false, true, false, false, true, false, false, false, false, false, false],
  [false, false, false, false, false, false, false, false, false, false, false, false, false, false, false, false, false, false, false, false],
  [false, false, false, false, false, false, false, false, false, false, false, false, false, false, false, false, false, false, false, false],
  [false, false, false, false, false, false, false, false, false, false, false, false, false, false, false, false, false, false, false, false],
  [false, false, false, false, false, false, false, false, false, false, false, false, false, false, false, false, false, false, false, false],
  [false, false, false, false, false, false, false, false, false, false, false, false, false, false, false, false, false, false, false]]
def inl (y : Nat) : Bool := nth false (nth [] inlL (y / 20)) (y % 20)
def hasN (n : Nat) : List Nat → Bool
  | [] => false
  | a :: l => bif Nat.beq a n then true else hasN n l
def fetL (pc : Nat) (k : mMI → Prop) : List (Nat × mMI) → Prop
  | [] => False
  | (q, e) :: l => bif Nat.beq q pc then k e else fetL pc k l
def fet (ch : List (List (Nat × mMI))) (pc : Nat) (k : mMI → Prop) : Prop := fetL pc k (nth [] ch (pc / 16))
def popI (S : List Value) (k : Int32 → List Value → Prop) : Prop := match S with
  | .int x :: S => k x S
  | _ => False
def popL (S : List Value) (k : Int64 → List Value → Prop) : Prop := match S with
  | .long x :: S => k x S
  | _ => False
def popR (S : List Value) (k : Nat → List Value → Prop) : Prop := match S with
  | .ref x :: S => k x S
  | _ => False
def popV (S : List Value) (k : Value → List Value → Prop) : Prop := match S with
  | v :: S => k v S
  | [] => False
def isI (v : Value) (k : Int32 → Prop) : Prop := match v with
  | .int x => k x
  | _ => False
def isL (v : Value) (k : Int64 → Prop) : Prop := match v with
  | .long x => k x
  | _ => False
def isA (v : Value) (k : Value → Prop) : Prop := match v with
  | .ref x => k (.ref x)
  | .null => k .null
  | .retAddr x => bif Nat.beq x 999 then False else k (.retAddr x)
  | _ => False
def isN (v : Value) (k : Value → Prop) : Prop := match v with
  | .ref x => k (.ref x)
  | .null => k .null
  | _ => False
def ld (k : Value → Prop) : List Value → Nat → Prop
  | [], _ => False
  | v :: _, 0 => k v
  | _ :: L, n + 1 => ld k L n
/-- what a store at the next place leaves of a value: a long's first half is lost -/
def cut (v : Value) (k : Value → Prop) : Prop := match v with
  | .long _ => k (.float 0)
  | .double _ => k (.float 0)
  | v => k v
def sto (v : Value) : List Value → Nat → (List Value → Prop) → Prop
  | [], _, _ => False
  | _ :: L, 0, k => k (v :: L)
  | a :: _ :: L, 1, k => cut a (fun a => k (a :: v :: L))
  | a :: L, n + 2, k => sto v L (n + 1) (fun L => k (a :: L))
  | [_], 1, _ => False
def sto2 (v : Value) : List Value → Nat → (List Value → Prop) → Prop
  | _ :: _ :: L, 0, k => k (v :: .float 0 :: L)
  | a :: _ :: _ :: L, 1, k => cut a (fun a => k (a :: v :: .float 0 :: L))
  | a :: L, n + 2, k => sto2 v L (n + 1) (fun L => k (a :: L))
  | _, _, _ => False
def popN : Nat → List Value → List Value → (List Value → List Value → Prop) → Prop
  | 0, S, acc, k => k acc S
  | n + 1, v :: S, acc, k => popN n S (v :: acc) k
  | _ + 1, [], _, _ => False
def mkK : Nat → List Value → (List Value → Prop) → Prop
  | 0, [], k => k []
  | 0, _ :: _, _ => False
  | n + 1, [], k => mkK n [] (fun L => k (.float 0 :: L))
  | n + 1, v :: a, k => match v with
    | .long x => (match n with
      | 0 => False
      | n + 1 => mkK n a (fun L => k (.long x :: .float 0 :: L)))
    | .double _ => False
    | v => mkK n a (fun L => k (v :: L))
def catS : List Value → Nat
  | [] => 0
  | v :: S => (match v with
    | .long _ => 2
    | .double _ => 2
    | _ => 1) + catS S
def pushO (v : Option Value) (S : List Value) : List Value := match v with
  | some x => x :: S
  | none => S
def recv (rc : Nat) (args : List Value) (q : Prop) : Prop := match rc with
  | 0 => q
  | c + 1 => (match args with
    | .ref k :: _ => (match csh k with
      | some c' => bif Nat.beq c c' then q else False
      | none => False)
    | .retAddr n :: _ => bif Nat.beq c 98 && (Nat.ble 1 n && Nat.ble n 14) then q else False
    | _ => False)
def swP (x : Int32) (d : Nat) (k : Nat → Prop) : List (Int32 × Nat) → Prop
  | [] => k d
  | (v, t) :: l => (x = v → k t) ∧ (¬ x = v → swP x d k l)
def ret1 (ret : Nat) (x : Int32) (q : Prop) : Prop := match ret with
  | 1 => q
  | 3 => (x = 0 ∨ x = 1) ∧ q
  | 4 => narrow .byte (.int x) = .int x ∧ q
  | 5 => narrow .char (.int x) = .int x ∧ q
  | _ => False
/-- one instruction -/
noncomputable def st1 (C : mC) (ret : Nat) (e : mMI) (L S : List Value) (I A : mI) (B : mB) (P : mP) (K : mK) (R : mR) : Prop := match e with
  | (i, nx, tg, ax) => match i with
    | .iconst _ => kIc ax (fun x => K nx L (.int x :: S) I A B P)
    | .bipush _ => kIc ax (fun x => K nx L (.int x :: S) I A B P)
    | .sipush _ => kIc ax (fun x => K nx L (.int x :: S) I A B P)
    | .ldc _ => bif Nat.ble 1000 ax then (bif Nat.beq ax 9999 then False else K nx L (.retAddr (ax - 999) :: S) I A B P) else kIc ax (fun x => K nx L (.int x :: S) I A B P)
    | .ldc_w _ => bif Nat.ble 1000 ax then (bif Nat.beq ax 9999 then False else K nx L (.retAddr (ax - 999) :: S) I A B P) else kIc ax (fun x => K nx L (.int x :: S) I A B P)
    | .lconst _ => kLc ax (fun x => K nx L (.long x :: S) I A B P)
    | .ldc2_w _ => kLc ax (fun x => K nx L (.long x :: S) I A B P)
    | .aconst_null => K nx L (.null :: S) I A B P
    | .iload n => ld (fun v => isI v (fun x => K nx L (.int x :: S) I A B P)) L n
    | .iload_n n => ld (fun v => isI v (fun x => K nx L (.int x :: S) I A B P)) L n.val
    | .lload n => ld (fun v => isL v (fun x => K nx L (.long x :: S) I A B P)) L n
    | .lload_n n => ld (fun v => isL v (fun x => K nx L (.long x :: S) I A B P)) L n.val
    | .aload n => ld (fun v => isA v (fun x => K nx L (x :: S) I A B P)) L n
    | .aload_n n => ld (fun v => isA v (fun x => K nx L (x :: S) I A B P)) L n.val
    | .istore n => popI S (fun x S => sto (.int x) L n (fun L => K nx L S I A B P))
    | .istore_n n => popI S (fun x S => sto (.int x) L n.val (fun L => K nx L S I A B P))
    | .lstore n => popL S (fun x S => sto2 (.long x) L n (fun L => K nx L S I A B P))
    | .lstore_n n => popL S (fun x S => sto2 (.long x) L n.val (fun L => K nx L S I A B P))
    | .astore n => popV S (fun v S => isN v (fun v => sto v L n (fun L => K nx L S I A B P)))
    | .astore_n n => popV S (fun v S => isN v (fun v => sto v L n.val (fun L => K nx L S I A B P)))
    | .iinc n _ => kIc ax (fun d => ld (fun v => isI v (fun x => sto (.int (x + d)) L n (fun L => K nx L S I A B P))) L n)
    | .iadd => popI S (fun y S => popI S (fun x S => K nx L (.int (x + y) :: S) I A B P))
    | .isub => popI S (fun y S => popI S (fun x S => K nx L (.int (x - y) :: S) I A B P))
    | .imul => popI S (fun y S => popI S (fun x S => K nx L (.int (x * y) :: S) I A B P))
    | .iand => popI S (fun y S => popI S (fun x S => K nx L (.int (x &&& y) :: S) I A B P))
    | .ishr => popI S (fun y S => popI S (fun x S => K nx L (.int (x >>> (y &&& 31)) :: S) I A B P))
    | .idiv => popI S (fun y S => popI S (fun x S => ¬ y = 0 ∧ K nx L (.int (x / y) :: S) I A B P))
    | .irem => popI S (fun y S => popI S (fun x S => ¬ y = 0 ∧ K nx L (.int (x - x / y * y) :: S) I A B P))
    | .ladd => popL S (fun y S => popL S (fun x S => K nx L (.long (x + y) :: S) I A B P))
    | .lsub => popL S (fun y S => popL S (fun x S => K nx L (.long (x - y) :: S) I A B P))
    | .lmul => popL S (fun y S => popL S (fun x S => K nx L (.long (x * y) :: S) I A B P))
    | .ldiv => popL S (fun y S => popL S (fun x S => ¬ y = 0 ∧ K nx L (.long (x / y) :: S) I A B P))
    | .lrem => popL S (fun y S => popL S (fun x S => ¬ y = 0 ∧ K nx L (.long (x - x / y * y) :: S) I A B P))
    | .lneg => popL S (fun x S => K nx L (.long (-x) :: S) I A B P)
    | .i2l => popI S (fun x S => K nx L (.long x.toInt64 :: S) I A B P)
    | .l2i => popL S (fun x S => K nx L (.int x.toInt32 :: S) I A B P)
    | .i2b => popI S (fun x S => K nx L (.int x.toInt8.toInt32 :: S) I A B P)
    | .i2c => popI S (fun x S => K nx L (.int (x.toUInt32 % 65536).toInt32 :: S) I A B P)
    | .dup => popV S (fun v S => isA v (fun v => K nx L (v :: v :: S) I A B P))
    | .dup2 => popI S (fun x S => popR S (fun k S => K nx L (.int x :: .ref k :: .int x :: .ref k :: S) I A B P))
    | .pop => popI S (fun _ S => K nx L S I A B P)
    | .pop2 => popL S (fun _ S => K nx L S I A B P)
    | .goto _ => K tg L S I A B P
    | .ifCond c _ => popI S (fun x S => match c with
      | .eq => (x = 0 → K tg L S I A B P) ∧ (¬ x = 0 → K nx L S I A B P)
      | .ne => (¬ x = 0 → K tg L S I A B P) ∧ (x = 0 → K nx L S I A B P)
      | .lt => (x < 0 → K tg L S I A B P) ∧ (¬ x < 0 → K nx L S I A B P)
      | .ge => (0 ≤ x → K tg L S I A B P) ∧ (¬ 0 ≤ x → K nx L S I A B P)
      | .gt => (0 < x → K tg L S I A B P) ∧ (¬ 0 < x → K nx L S I A B P)
      | .le => (x ≤ 0 → K tg L S I A B P) ∧ (¬ x ≤ 0 → K nx L S I A B P))
    | .if_icmp c _ => popI S (fun y S => popI S (fun x S => match c with
      | .eq => (x = y → K tg L S I A B P) ∧ (¬ x = y → K nx L S I A B P)
      | .ne => (¬ x = y → K tg L S I A B P) ∧ (x = y → K nx L S I A B P)
      | .lt => (x < y → K tg L S I A B P) ∧ (¬ x < y → K nx L S I A B P)
      | .ge => (y ≤ x → K tg L S I A B P) ∧ (¬ y ≤ x → K nx L S I A B P)
      | .gt => (y < x → K tg L S I A B P) ∧ (¬ y < x → K nx L S I A B P)
      | .le => (x ≤ y → K tg L S I A B P) ∧ (¬ x ≤ y → K nx L S I A B P)))
    | .lcmp => popL S (fun y S => popL S (fun x S => match ax with
      | 0 => (x = y → K tg L S I A B P) ∧ (¬ x = y → K nx L S I A B P)
      | 1 => (¬ x = y → K tg L S I A B P) ∧ (x = y → K nx L S I A B P)
      | 2 => (x < y → K tg L S I A B P) ∧ (¬ x < y → K nx L S I A B P)
      | 3 => (y ≤ x → K tg L S I A B P) ∧ (¬ y ≤ x → K nx L S I A B P)
      | 4 => (y < x → K tg L S I A B P) ∧ (¬ y < x → K nx L S I A B P)
      | 5 => (x ≤ y → K tg L S I A B P) ∧ (¬ x ≤ y → K nx L S I A B P)
      | _ => False))
    | .ifnull _ => popV S (fun v S => match v with
      | .null => K tg L S I A B P
      | .ref _ => K nx L S I A B P
      | _ => False)
    | .ifnonnull _ => popV S (fun v S => match v with
      | .null => K nx L S I A B P
      | .ref _ => K tg L S I A B P
      | _ => False)
    | .tableswitch _ _ _ _ => popI S (fun x S => swP x (kS ax).2 (fun t => K t L S I A B P) (kS ax).1)
    | .lookupswitch _ _ => popI S (fun x S => swP x (kS ax).2 (fun t => K t L S I A B P) (kS ax).1)
    | .getstatic _ => (match ax with
      | 0 => K nx L (.int 1 :: S) I A B P
      | 1 => K nx L (.retAddr 999 :: S) I A B P
      | _ => False)
    | .getfield _ => popV S (fun v S => match v with
      | .ref k => (match csh k with
        | some c => bif Nat.beq c (ax / 64) then (match fsh ax with
          | 0 => K nx L (.int (I k tg) :: S) I A B P
          | 1 => (match P k tg with
            | some q => K nx L (.ref q :: S) I A B P
            | none => False)
          | 2 => K nx L (.int (I k tg) :: S) I A B P
          | _ => False) else False
        | none => False)
      | .retAddr n => bif Nat.ble 1 n && Nat.ble n 14 then (bif Nat.beq ax 10000 then K nx L (.retAddr (n + 100) :: S) I A B P else bif Nat.beq ax 10001 then K nx L (.int 0 :: S) I A B P else False) else False
      | _ => False)
    | .putfield _ => popV S (fun v S => popR S (fun k S => match csh k with
      | some c => bif Nat.beq c (ax / 64) then (match fsh ax with
        | 0 => isI v (fun x => K nx L S (up2 I k tg x) A B P)
        | 1 => (match v with
          | .ref q => K nx L S I A B (up2 P k tg (some q))
          | _ => False)
        | 2 => isI v (fun x => (x = 0 ∨ x = 1) ∧ K nx L S (up2 I k tg x) A B P)
        | _ => False) else False
      | none => False))
    | .arraylength => popV S (fun v S => match v with
      | .ref k => (match rsh k with
        | some (_, _, n) => K nx L (.int (Int32.ofNat n) :: S) I A B P
        | none => ∃ t n : Nat, ash k = some (t, n) ∧ K nx L (.int (Int32.ofNat n) :: S) I A B P)
      | .retAddr n => (match n with
        | 0 => K nx L (.int (I 900 0) :: S) I A B P
        | n => bif Nat.ble 101 n && Nat.ble n 114 then K nx L (.int (Int32.ofNat (tx (n - 101)).length) :: S) I A B P else False)
      | _ => False)
    | .iaload => popI S (fun i S => popV S (fun v S => match v with
      | .ref k => ∃ n : Nat, ash k = some (0, n) ∧ vp_in i n ∧ K nx L (.int (A k i.toNatClampNeg) :: S) I A B P
      | .retAddr 0 => vp_in i (I 900 0).toNatClampNeg ∧ K nx L (.int (A 900 i.toNatClampNeg) :: S) I A B P
      | _ => False))
    | .baload => popI S (fun i S => popV S (fun v S => match v with
      | .ref k => ∃ t n : Nat, ash k = some (t, n) ∧ (t = 2 ∨ t = 3) ∧ vp_in i n ∧ K nx L (.int (A k i.toNatClampNeg) :: S) I A B P
      | .retAddr n => bif Nat.ble 101 n && Nat.ble n 114 then vp_in i (tx (n - 101)).length ∧ K nx L (.int ((tx (n - 101)).getD i.toNatClampNeg 0) :: S) I A B P else False
      | _ => False))
    | .laload => popI S (fun i S => popR S (fun k S => ∃ n : Nat, ash k = some (1, n) ∧ vp_in i n ∧ K nx L (.long (B k i.toNatClampNeg) :: S) I A B P))
    | .aaload => popI S (fun i S => popR S (fun k S => ∃ o m n : Nat, rsh k = some (o, m, n) ∧ vp_in i n ∧ K nx L (.ref (o + m * i.toNatClampNeg) :: S) I A B P))
    | .iastore => popI S (fun x S => popI S (fun i S => popR S (fun k S => ∃ n : Nat, ash k = some (0, n) ∧ vp_in i n ∧ K nx L S I (up2 A k i.toNatClampNeg x) B P)))
    | .bastore => popI S (fun x S => popI S (fun i S => popR S (fun k S => ∃ t n : Nat, ash k = some (t, n) ∧ ((t = 2 ∧ x = x.toInt8.toInt32) ∨ (t = 3 ∧ (x = 0 ∨ x = 1))) ∧ vp_in i n ∧ K nx L S I (up2 A k i.toNatClampNeg x) B P)))
    | .lastore => popL S (fun x S => popI S (fun i S => popR S (fun k S => ∃ n : Nat, ash k = some (1, n) ∧ vp_in i n ∧ K nx L S I A (up2 B k i.toNatClampNeg x) P)))
    | .ireturn => (match S with
      | [.int x] => ret1 ret x (R (some (.int x)) I A B P)
      | _ => False)
    | .lreturn => (match S with
      | [.long x] => bif Nat.beq ret 2 then R (some (.long x)) I A B P else False
      | _ => False)
    | .areturn => (match S with
      | [.ref x] => bif Nat.beq ret 6 then R (some (.ref x)) I A B P else False
      | [.null] => bif Nat.beq ret 6 then R (some .null) I A B P else False
      | _ => False)
    | .return_ => (match S with
      | [] => bif Nat.beq ret 0 then R none I A B P else False
      | _ => False)
    | .invokevirtual _ => bif Nat.beq ax 9000 then False else (match mr ax with
      | (_, _, na, rc, _) => popN na S [] (fun args S => bif Nat.ble (catS S) 8 then recv rc args (C ax args I A B P (fun v I A B P => K nx L (pushO v S) I A B P)) else False))
    | .invokestatic _ => bif Nat.ble 9001 ax then (match ax with
      | 9001 => popI S (fun n S => popI S (fun dp S => popR S (fun d S => popI S (fun sp S => popR S (fun q S => bif Nat.ble (catS S) 8 then ∃ t n0 n1 : Nat, ash q = some (t, n0) ∧ ash d = some (t, n1) ∧ (t = 0 ∨ t = 1) ∧ ¬ sp < 0 ∧ ¬ dp < 0 ∧ ¬ n < 0 ∧ sp.toNatClampNeg + n.toNatClampNeg ≤ n0 ∧ dp.toNatClampNeg + n.toNatClampNeg ≤ n1 ∧
        (t = 0 → K nx L S I (up1 A d (va_cpy (A q) (A d) sp.toNatClampNeg dp.toNatClampNeg n.toNatClampNeg)) B P) ∧ (t = 1 → K nx L S I A (up1 B d (va_cpy (B q) (B d) sp.toNatClampNeg dp.toNatClampNeg n.toNatClampNeg)) P) else False)))))
      | 9002 => popI S (fun y S => popI S (fun x S => bif Nat.ble (catS S) 8 then K nx L (.int (if x < y then y else x) :: S) I A B P else False))
      | 9003 => popI S (fun y S => popI S (fun x S => bif Nat.ble (catS S) 8 then K nx L (.int (if y < x then y else x) :: S) I A B P else False))
      | 9004 => popL S (fun y S => popL S (fun x S => bif Nat.ble (catS S) 8 then K nx L (.long (if y < x then x else y) :: S) I A B P else False))
      | 9005 => popL S (fun y S => popL S (fun x S => bif Nat.ble (catS S) 8 then K nx L (.long (if y < x then y else x) :: S) I A B P else False))
      | 9006 => popL S (fun x S => bif Nat.ble (catS S) 8 then K nx L (.long (if 0 < x then x else -x) :: S) I A B P else False)
      | _ => False)
      else bif Nat.beq ax 9000 then False else (match mr ax with
      | (_, _, na, rc, _) => popN na S [] (fun args S => bif Nat.ble (catS S) 8 then recv rc args (C ax args I A B P (fun v I A B P => K nx L (pushO v S) I A B P)) else False))
    | _ => False
/-- up to n instructions; stops at J ahead of a loop's head, at the calls of methods that do not go in, and when n is used up -/
noncomputable def runP (J : mJ) : Nat → Nat → mRec → Nat → List Value → List Value → mI → mI → mB → mP → mR → Prop
  | 0, y, _, pc, L, S, I, A, B, P, R => J y pc L S I A B P R
  | n + 1, y, r, pc, L, S, I, A, B, P, R => match r with
    | (_, ret, _, _, _, hd, ch) => fet ch pc (fun e => st1
      (fun y' args I A B P R' => match mr y' with
        | (maxL, _, _, _, _, _, _) => mkK maxL args (fun L' => bif inl y' then runP J n y' (mr y') 0 L' [] I A B P R' else J y' 0 L' [] I A B P R'))
      ret e L S I A B P
      (fun pc' L' S' I A B P => bif hasN pc' hd then J y pc' L' S' I A B P R else runP J n y r pc' L' S' I A B P R) R)
/-- what is asked of a judgement: it holds wherever a run of the small machine leads to it -/
def mRules (J : mJ) : Prop := ∀ (n y pc : Nat) (L S : List Value) (I A : mI) (B : mB) (P : mP) (R : mR), runP J n y (mr y) pc L S I A B P R → J y pc L S I A B P R
