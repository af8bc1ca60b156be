/-! ===== THE ABSTRACT MACHINE: names for addresses; memory as functions of names ===== -/
abbrev zLc : Type := List (Option Value)
abbrev zSh : Type := Nat → Nat × Nat
abbrev zRf : Type := Nat → Nat → Option Nat
abbrev zIn : Type := Nat → Nat → Int32
abbrev zLo : Type := Nat → Nat → Int64
abbrev zM : Type := Nat × zSh × zRf × zIn × zLo
abbrev zSp : Type := List Value → zM → (Option Value → zM → Prop) → Prop
abbrev zK : Type := Nat → zLc → List Value → Nat × Nat → zM → Prop
abbrev zTb : Type := List (Nat × (Jvm.ClassFile.Instr × Nat × List Nat))
abbrev zC : Type := zTb × List (Nat × (Nat × Nat × Nat)) × List (Nat × Int32) × List (Nat × Int64) × List (Nat × (Nat × Nat × zSp × Nat × Nat)) × List (Nat × Nat) × Nat
def zlk {α : Type} : List (Nat × α) → Nat → Option α
  | [], _ => none
  | (k, a) :: l, n => match Nat.beq k n with
    | true => some a
    | false => zlk l n
def znth : zLc → Nat → Option Value
  | [], _ => none
  | a :: _, 0 => a
  | _ :: l, n + 1 => znth l n
def zset : zLc → Nat → Option Value → zLc
  | [], _, _ => []
  | _ :: l, 0, v => v :: l
  | a :: l, n + 1, v => a :: zset l n v
def zin : List Nat → Nat → Bool
  | [], _ => false
  | a :: l, n => match Nat.beq a n with
    | true => true
    | false => zin l n
/-- an integer cell, an integer row, a long cell written -/
def zu (σ : zIn) (r j : Nat) (x : Int32) : zIn := fun r' j' => if r' = r ∧ j' = j then x else σ r' j'
def zuL (τ : zLo) (r j : Nat) (x : Int64) : zLo := fun r' j' => if r' = r ∧ j' = j then x else τ r' j'
def zuR (ρ : zRf) (r j : Nat) (x : Option Nat) : zRf := fun r' j' => if r' = r ∧ j' = j then x else ρ r' j'
def zrow (σ : zIn) (r : Nat) (f : Nat → Int32) : zIn := fun r' => if r' = r then f else σ r'
def zrowL (τ : zLo) (r : Nat) (f : Nat → Int64) : zLo := fun r' => if r' = r then f else τ r'
def zrowR (ρ : zRf) (r : Nat) (f : Nat → Option Nat) : zRf := fun r' => if r' = r then f else ρ r'
def zuS (sh : zSh) (n : Nat) (x : Nat × Nat) : zSh := fun k => if k = n then x else sh k
/-- a store of a value of one word: a long below it is gone -/
def zsto (ll : zLc) (i : Nat) (v : Value) (K : zLc → Prop) : Prop := match i with
  | 0 => K (zset ll 0 (some v))
  | k + 1 => match znth ll k with
    | some (.long _) => K (zset (zset ll k none) (k + 1) (some v))
    | some (.double _) => K (zset (zset ll k none) (k + 1) (some v))
    | _ => K (zset ll (k + 1) (some v))
/-- of two words -/
def zsto2 (ll : zLc) (i : Nat) (v : Value) (K : zLc → Prop) : Prop := zsto ll i v (fun l => K (zset l (i + 1) none))
def zcats : List Value → Nat
  | [] => 0
  | v :: l => v.category + zcats l
def zpop : Nat → List Value → List Value → (List Value → List Value → Prop) → Prop
  | 0, st, av, K => K av st
  | n + 1, v :: st, av, K => zpop n st (v :: av) K
  | _ + 1, [], _, _ => False
def zpush : Option Value → List Value → List Value
  | none, st => st
  | some v, st => v :: st
def zsw (x : Int) : Int → List Nat → (Nat → Prop) → Prop
  | _, [], _ => True
  | lo, t :: l, K => (x = lo → K t) ∧ zsw x (lo + 1) l K
def zcnd (c : Jvm.ClassFile.Cond) (x y : Int32) (T F : Prop) : Prop := match c with
  | .eq => (x = y → T) ∧ (¬ x = y → F)
  | .ne => (¬ x = y → T) ∧ (x = y → F)
  | .lt => (x < y → T) ∧ (¬ x < y → F)
  | .ge => (y ≤ x → T) ∧ (¬ y ≤ x → F)
  | .gt => (y < x → T) ∧ (¬ y < x → F)
  | .le => (x ≤ y → T) ∧ (¬ x ≤ y → F)
/-- a new cell at the next name: its kind, nothing in it yet -/
def znew (μ : zM) (x : Nat × Nat) : zM := (μ.1 + 1, zuS μ.2.1 μ.1 x, zrowR μ.2.2.1 μ.1 (fun _ => none), zrow μ.2.2.2.1 μ.1 (fun _ => 0), zrowL μ.2.2.2.2 μ.1 (fun _ => 0))
/-- an array of N arrays of k integers: the outer one at the next name, the rows behind it -/
def zgrid (μ : zM) (N k : Nat) : zM := (μ.1 + 1 + N, (fun j => if j = μ.1 then (104, N) else if μ.1 < j ∧ j ≤ μ.1 + N then (100, k) else μ.2.1 j),
  (fun j => if j = μ.1 then (fun i => if i < N then some (μ.1 + 1 + i) else none) else if μ.1 < j ∧ j ≤ μ.1 + N then (fun _ => none) else μ.2.2.1 j),
  (fun j => if μ.1 ≤ j ∧ j ≤ μ.1 + N then (fun _ => 0) else μ.2.2.2.1 j), (fun j => if μ.1 ≤ j ∧ j ≤ μ.1 + N then (fun _ => 0) else μ.2.2.2.2 j))
/-- the name that stands for the script: no cell of the world -/
def zS : Nat := 1000000000
/-- what a call that has thrown leaves: it is caught here, or goes on to the caller where the method may throw -/
def zoutR (C : zC) (Ret : Option Value → zM → Prop) (b : UInt32) (μ : zM) : Prop := match zlk C.2.2.2.2.2.1 (100000 + b.toNat) with
  | some k => Ret (some (.int (Int32.ofNat k))) μ
  | none => match zlk C.2.2.2.2.2.1 99999 with
    | some _ => Ret (some (.float b)) μ
    | none => False
def zout (C : zC) (Ret : Option Value → zM → Prop) (v : Option Value) (μ : zM) (N : Prop) : Prop := match v with
  | some (.float b) => zoutR C Ret b μ
  | _ => N
/-- one instruction: what has to hold ahead of it, so that K holds behind it, or Ret at the method's end -/
def zst (C : zC) (R : Nat × Nat) (pc : Nat) (ll : zLc) (st : List Value) (κ : Nat × Nat) (μ : zM) (K : zK) (Ret : Option Value → zM → Prop) : Prop :=
  match zlk C.1 pc with
  | none => False
  | some (i, nx, tg) => match i with
    | .iconst _ => match zlk C.2.2.1 pc with
      | some v => K nx ll (.int v :: st) κ μ
      | none => False
    | .bipush _ => match zlk C.2.2.1 pc with
      | some v => K nx ll (.int v :: st) κ μ
      | none => False
    | .sipush _ => match zlk C.2.2.1 pc with
      | some v => K nx ll (.int v :: st) κ μ
      | none => False
    | .ldc _ => match zlk C.2.2.1 pc with
      | some v => K nx ll (.int v :: st) κ μ
      | none => False
    | .ldc_w _ => match zlk C.2.2.1 pc with
      | some v => K nx ll (.int v :: st) κ μ
      | none => False
    | .ldc2_w _ => match zlk C.2.2.2.1 pc with
      | some v => K nx ll (.long v :: st) κ μ
      | none => match zlk C.2.2.2.2.2.1 pc with
        | some b => K nx ll (.double (UInt64.ofNat b) :: st) κ μ
        | none => False
    | .lconst _ => match zlk C.2.2.2.1 pc with
      | some v => K nx ll (.long v :: st) κ μ
      | none => False
    | .iload_n k => match znth ll k.val with
      | some (.int x) => K nx ll (.int x :: st) κ μ
      | _ => False
    | .iload k => match znth ll k with
      | some (.int x) => K nx ll (.int x :: st) κ μ
      | _ => False
    | .lload_n k => match znth ll k.val with
      | some (.long x) => K nx ll (.long x :: st) κ μ
      | _ => False
    | .lload k => match znth ll k with
      | some (.long x) => K nx ll (.long x :: st) κ μ
      | _ => False
    | .aload_n k => match znth ll k.val with
      | some (.ref x) => K nx ll (.ref x :: st) κ μ
      | _ => False
    | .aload k => match znth ll k with
      | some (.ref x) => K nx ll (.ref x :: st) κ μ
      | _ => False
    | .istore_n k => match st with
      | .int x :: r => zsto ll k.val (.int x) (fun l => K nx l r κ μ)
      | _ => False
    | .istore k => match st with
      | .int x :: r => zsto ll k (.int x) (fun l => K nx l r κ μ)
      | _ => False
    | .astore_n k => match st with
      | .ref x :: r => zsto ll k.val (.ref x) (fun l => K nx l r κ μ)
      | _ => False
    | .astore k => match st with
      | .ref x :: r => zsto ll k (.ref x) (fun l => K nx l r κ μ)
      | _ => False
    | .lstore_n k => match st with
      | .long x :: r => zsto2 ll k.val (.long x) (fun l => K nx l r κ μ)
      | _ => False
    | .lstore k => match st with
      | .long x :: r => zsto2 ll k (.long x) (fun l => K nx l r κ μ)
      | _ => False
    | .dstore k => match st with
      | .double x :: r => zsto2 ll k (.double x) (fun l => K nx l r κ μ)
      | _ => False
    | .dconst _ => K nx ll (.double 0 :: st) κ μ
    | .iinc k _ => match znth ll k with
      | some (.int x) => match zlk C.2.2.1 pc with
        | some v => K nx (zset ll k (some (.int (x + v)))) st κ μ
        | none => False
      | _ => False
    | .iadd => match st with
      | .int y :: .int x :: r => K nx ll (.int (x + y) :: r) κ μ
      | _ => False
    | .isub => match st with
      | .int y :: .int x :: r => K nx ll (.int (x - y) :: r) κ μ
      | _ => False
    | .imul => match st with
      | .int y :: .int x :: r => K nx ll (.int (x * y) :: r) κ μ
      | _ => False
    | .iand => match st with
      | .int y :: .int x :: r => K nx ll (.int (x &&& y) :: r) κ μ
      | _ => False
    | .ior => match st with
      | .int y :: .int x :: r => K nx ll (.int (x ||| y) :: r) κ μ
      | _ => False
    | .ixor => match st with
      | .int y :: .int x :: r => K nx ll (.int (x ^^^ y) :: r) κ μ
      | _ => False
    | .idiv => match st with
      | .int y :: .int x :: r => (¬ y = 0) ∧ K nx ll (.int (x / y) :: r) κ μ
      | _ => False
    | .irem => match st with
      | .int y :: .int x :: r => (¬ y = 0) ∧ K nx ll (.int (x - x / y * y) :: r) κ μ
      | _ => False
    | .ishl => match st with
      | .int y :: .int x :: r => K nx ll (.int (x <<< (y &&& 31)) :: r) κ μ
      | _ => False
    | .ishr => match st with
      | .int y :: .int x :: r => K nx ll (.int (x >>> (y &&& 31)) :: r) κ μ
      | _ => False
    | .ladd => match st with
      | .long y :: .long x :: r => K nx ll (.long (x + y) :: r) κ μ
      | _ => False
    | .lsub => match st with
      | .long y :: .long x :: r => K nx ll (.long (x - y) :: r) κ μ
      | _ => False
    | .lmul => match st with
      | .long y :: .long x :: r => K nx ll (.long (x * y) :: r) κ μ
      | _ => False
    | .land => match st with
      | .long y :: .long x :: r => K nx ll (.long (x &&& y) :: r) κ μ
      | _ => False
    | .lor => match st with
      | .long y :: .long x :: r => K nx ll (.long (x ||| y) :: r) κ μ
      | _ => False
    | .ldiv => match st with
      | .long y :: .long x :: r => (¬ y = 0) ∧ K nx ll (.long (x / y) :: r) κ μ
      | _ => False
    | .lshl => match st with
      | .int y :: .long x :: r => K nx ll (.long (x <<< (y.toInt64 &&& 63)) :: r) κ μ
      | _ => False
    | .lshr => match st with
      | .int y :: .long x :: r => K nx ll (.long (x >>> (y.toInt64 &&& 63)) :: r) κ μ
      | _ => False
    | .i2l => match st with
      | .int x :: r => K nx ll (.long x.toInt64 :: r) κ μ
      | _ => False
    | .l2i => match st with
      | .long x :: r => K nx ll (.int x.toInt32 :: r) κ μ
      | _ => False
    | .lcmp => match st with
      | .long y :: .long x :: r => K nx ll (.int (lg_cmp x y) :: r) κ μ
      | _ => False
    | .i2d => match st with
      | .int x :: r => K nx ll (.double (FP.i2d x) :: r) κ μ
      | _ => False
    | .dmul => match st with
      | .double y :: .double x :: r => vf_n64 (FP.dmul x y) ∧ K nx ll (.double (FP.dmul x y) :: r) κ μ
      | _ => False
    | .ddiv => match st with
      | .double y :: .double x :: r => vf_n64 (FP.ddiv x y) ∧ K nx ll (.double (FP.ddiv x y) :: r) κ μ
      | _ => False
    | .dcmp op => match st with
      | .double y :: .double x :: r => K nx ll (.int (Op.cmpValue (FP.dcmp x y) op) :: r) κ μ
      | _ => False
    | .dup => match st with
      | v :: r => match v with
        | .long _ => False
        | .double _ => False
        | v => K nx ll (v :: v :: r) κ μ
      | _ => False
    | .dup_x1 => match st with
      | .int x :: .ref y :: r => K nx ll (.int x :: .ref y :: .int x :: r) κ μ
      | _ => False
    | .dup2 => match st with
      | .int x :: .ref y :: r => K nx ll (.int x :: .ref y :: .int x :: .ref y :: r) κ μ
      | _ => False
    | .pop => match st with
      | v :: r => match v with
        | .long _ => False
        | .double _ => False
        | _ => K nx ll r κ μ
      | _ => False
    | .ifCond c _ => match st, tg with
      | .int x :: r, t :: _ => zcnd c x 0 (K t ll r κ μ) (K nx ll r κ μ)
      | _, _ => False
    | .if_icmp c _ => match st, tg with
      | .int y :: .int x :: r, t :: _ => zcnd c x y (K t ll r κ μ) (K nx ll r κ μ)
      | _, _ => False
    | .goto _ => match tg with
      | t :: _ => K t ll st κ μ
      | _ => False
    | .tableswitch _ lo hi _ => match st, tg with
      | .int x :: r, t :: ts => (x.toInt < lo ∨ hi < x.toInt → K t ll r κ μ) ∧ zsw x.toInt lo ts (fun t => K t ll r κ μ)
      | _, _ => False
    | .getfield k => match st with
      | .ref a :: r => match zlk C.2.1 k with
        | some (ci, j, t) => match Nat.beq (μ.2.1 a).1 ci with
          | true => match t with
            | 1 => K nx ll (.long (μ.2.2.2.2 a j) :: r) κ μ
            | 2 => match μ.2.2.1 a j with
              | some b => K nx ll (.ref b :: r) κ μ
              | none => K nx ll (.null :: r) κ μ
            | _ => K nx ll (.int (μ.2.2.2.1 a j) :: r) κ μ
          | false => False
        | none => False
      | _ => False
    | .putfield k => match st with
      | v :: .ref a :: r => match zlk C.2.1 k with
        | some (ci, j, t) => match Nat.beq (μ.2.1 a).1 ci with
          | true => match t, v with
            | 0, .int x => K nx ll r κ (μ.1, μ.2.1, μ.2.2.1, zu μ.2.2.2.1 a j x, μ.2.2.2.2)
            | 3, .int x => narrow .boolean (.int x) = .int x ∧ K nx ll r κ (μ.1, μ.2.1, μ.2.2.1, zu μ.2.2.2.1 a j x, μ.2.2.2.2)
            | 1, .long x => K nx ll r κ (μ.1, μ.2.1, μ.2.2.1, μ.2.2.2.1, zuL μ.2.2.2.2 a j x)
            | 2, .ref x => K nx ll r κ (μ.1, μ.2.1, zuR μ.2.2.1 a j (some x), μ.2.2.2.1, μ.2.2.2.2)
            | _, _ => False
          | false => False
        | none => False
      | _ => False
    | .iaload => match st with
      | .int i :: .ref a :: r => match μ.2.1 a with
        | (100, n) => vp_in i n ∧ K nx ll (.int (μ.2.2.2.1 a i.toNatClampNeg) :: r) κ μ
        | (999, _) => match Nat.beq a zS, zlk C.2.2.1 (300000 + i.toNatClampNeg) with
          | true, some v => ¬ i < 0 ∧ K nx ll (.int v :: r) κ μ
          | _, _ => False
        | _ => False
      | _ => False
    | .baload => match st with
      | .int i :: .ref a :: r => match μ.2.1 a with
        | (102, n) => vp_in i n ∧ K nx ll (.int (μ.2.2.2.1 a i.toNatClampNeg) :: r) κ μ
        | _ => False
      | _ => False
    | .laload => match st with
      | .int i :: .ref a :: r => match μ.2.1 a with
        | (101, n) => vp_in i n ∧ K nx ll (.long (μ.2.2.2.2 a i.toNatClampNeg) :: r) κ μ
        | _ => False
      | _ => False
    | .aaload => match st with
      | .int i :: .ref a :: r => match μ.2.1 a with
        | (104, n) => vp_in i n ∧ match μ.2.2.1 a i.toNatClampNeg with
          | some b => K nx ll (.ref b :: r) κ μ
          | none => K nx ll (.null :: r) κ μ
        | _ => False
      | _ => False
    | .iastore => match st with
      | .int x :: .int i :: .ref a :: r => match μ.2.1 a with
        | (100, n) => vp_in i n ∧ K nx ll r κ (μ.1, μ.2.1, μ.2.2.1, zu μ.2.2.2.1 a i.toNatClampNeg x, μ.2.2.2.2)
        | _ => False
      | _ => False
    | .bastore => match st with
      | .int x :: .int i :: .ref a :: r => match μ.2.1 a with
        | (102, n) => vp_in i n ∧ K nx ll r κ (μ.1, μ.2.1, μ.2.2.1, zu μ.2.2.2.1 a i.toNatClampNeg (vp_nar .boolean x), μ.2.2.2.2)
        | _ => False
      | _ => False
    | .lastore => match st with
      | .long x :: .int i :: .ref a :: r => match μ.2.1 a with
        | (101, n) => vp_in i n ∧ K nx ll r κ (μ.1, μ.2.1, μ.2.2.1, μ.2.2.2.1, zuL μ.2.2.2.2 a i.toNatClampNeg x)
        | _ => False
      | _ => False
    | .arraylength => match st with
      | .ref a :: r => match μ.2.1 a with
        | (100, n) => K nx ll (.int (Int32.ofNat n) :: r) κ μ
        | (101, n) => K nx ll (.int (Int32.ofNat n) :: r) κ μ
        | (102, n) => K nx ll (.int (Int32.ofNat n) :: r) κ μ
        | (104, n) => K nx ll (.int (Int32.ofNat n) :: r) κ μ
        | (999, _) => match Nat.beq a zS, zlk C.2.2.1 299999 with
          | true, some v => K nx ll (.int v :: r) κ μ
          | _, _ => False
        | _ => False
      | _ => False
    | .invokevirtual k => match zlk C.2.2.2.2.1 k with
      | some (0, n, sp, mc, ms) => (κ.1 + mc ≤ R.1 ∧ κ.2 + ms ≤ R.2) ∧ zpop (n + 1) st [] (fun av r => Nat.ble (zcats r) 8 = true ∧ sp av μ (fun v μ1 => zout C Ret v μ1 (K nx ll (zpush v r) (κ.1 + mc, κ.2 + ms) μ1)))
      | _ => False
    | .invokestatic k => match zlk C.2.2.2.2.1 k with
      | some (1, n, sp, mc, ms) => (κ.1 + mc ≤ R.1 ∧ κ.2 + ms ≤ R.2) ∧ zpop n st [] (fun av r => Nat.ble (zcats r) 8 = true ∧ sp av μ (fun v μ1 => zout C Ret v μ1 (K nx ll (zpush v r) (κ.1 + mc, κ.2 + ms) μ1)))
      | _ => False
    | .invokespecial k => match zlk C.2.2.2.2.1 k with
      | some (2, n, sp, mc, ms) => (κ.1 + mc ≤ R.1 ∧ κ.2 + ms ≤ R.2) ∧ zpop (n + 1) st [] (fun av r => Nat.ble (zcats r) 8 = true ∧ sp av μ (fun v μ1 => zout C Ret v μ1 (K nx ll (zpush v r) (κ.1 + mc, κ.2 + ms) μ1)))
      | _ => False
    | .new _ => match zlk C.2.2.2.2.2.1 pc with
      | some ci => match Nat.blt ci 1000 with
        | true => (κ.1 + 1 ≤ R.1 ∧ κ.2 + (zCl ci).2.2 ≤ R.2) ∧ K nx ll (.ref μ.1 :: st) (κ.1 + 1, κ.2 + (zCl ci).2.2) (znew μ (ci, 0))
        | false => match st, zlk C.2.2.2.2.2.1 99999 with
          | [], some _ => (κ.1 + 1 ≤ R.1 ∧ κ.2 + 6 ≤ R.2) ∧ Ret (some (.float (UInt32.ofNat (ci - 1000)))) μ
          | _, _ => False
      | none => False
    | .newarray t => match st with
      | .int n :: r => (¬ n < 0 ∧ n.toNatClampNeg ≤ 10000 ∧ κ.1 + 1 ≤ R.1 ∧ κ.2 + n.toNatClampNeg ≤ R.2) ∧ match t with
        | .int => K nx ll (.ref μ.1 :: r) (κ.1 + 1, κ.2 + n.toNatClampNeg) (znew μ (100, n.toNatClampNeg))
        | .long => K nx ll (.ref μ.1 :: r) (κ.1 + 1, κ.2 + n.toNatClampNeg) (znew μ (101, n.toNatClampNeg))
        | .boolean => K nx ll (.ref μ.1 :: r) (κ.1 + 1, κ.2 + n.toNatClampNeg) (znew μ (102, n.toNatClampNeg))
        | .double => zDb = true ∧ K nx ll (.ref μ.1 :: r) (κ.1 + 1, κ.2 + n.toNatClampNeg) (znew μ (103, n.toNatClampNeg))
        | _ => False
      | _ => False
    | .anewarray _ => match st with
      | .int n :: r => (¬ n < 0 ∧ n.toNatClampNeg ≤ 10000 ∧ κ.1 + 1 ≤ R.1 ∧ κ.2 + n.toNatClampNeg ≤ R.2) ∧ K nx ll (.ref μ.1 :: r) (κ.1 + 1, κ.2 + n.toNatClampNeg) (znew μ (104, n.toNatClampNeg))
      | _ => False
    | .multianewarray _ _ => match st with
      | .int k :: .int n :: r => (¬ n < 0 ∧ ¬ k < 0 ∧ n.toNatClampNeg ≤ 10000 ∧ k.toNatClampNeg ≤ 10000 ∧ κ.1 + (1 + n.toNatClampNeg) ≤ R.1 ∧ κ.2 + (n.toNatClampNeg + n.toNatClampNeg * k.toNatClampNeg) ≤ R.2) ∧ K nx ll (.ref μ.1 :: r) (κ.1 + 1 + n.toNatClampNeg, κ.2 + n.toNatClampNeg + n.toNatClampNeg * k.toNatClampNeg) (zgrid μ n.toNatClampNeg k.toNatClampNeg)
      | _ => False
    | .aastore => match st with
      | .ref x :: .int i :: .ref a :: r => match μ.2.1 a, μ.2.1 x with
        | (104, n), (100, _) => vp_in i n ∧ K nx ll r κ (μ.1, μ.2.1, zuR μ.2.2.1 a i.toNatClampNeg (some x), μ.2.2.2.1, μ.2.2.2.2)
        | _, _ => False
      | _ => False
    | .ireturn => match st with
      | [.int x] => match C.2.2.2.2.2.2 with
        | 1 => Ret (some (.int x)) μ
        | 2 => narrow .boolean (.int x) = .int x ∧ Ret (some (.int x)) μ
        | _ => False
      | _ => False
    | .lreturn => match st with
      | [.long x] => match C.2.2.2.2.2.2 with
        | 3 => Ret (some (.long x)) μ
        | _ => False
      | _ => False
    | .dreturn => match st with
      | [.double x] => match C.2.2.2.2.2.2 with
        | 4 => Ret (some (.double x)) μ
        | _ => False
      | _ => False
    | .areturn => match st with
      | [.ref x] => match C.2.2.2.2.2.2 with
        | 5 => Ret (some (.ref x)) μ
        | _ => False
      | _ => False
    | .return_ => match st with
      | [] => match C.2.2.2.2.2.2 with
        | 0 => Ret none μ
        | _ => False
      | _ => False
    | _ => False
def zrun (C : zC) (R : Nat × Nat) (cuts : List Nat) (Gl : zK) (Ret : Option Value → zM → Prop) : Nat → zK
  | 0, pc, ll, st, κ, μ => Gl pc ll st κ μ
  | f + 1, pc, ll, st, κ, μ => zst C R pc ll st κ μ (fun pc1 ll1 st1 κ1 μ1 => match zin cuts pc1 with
    | true => Gl pc1 ll1 st1 κ1 μ1
    | false => zrun C R cuts Gl Ret f pc1 ll1 st1 κ1 μ1) Ret
