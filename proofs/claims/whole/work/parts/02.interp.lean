/-! A SMALL MACHINE: values by numbers, one memory, addresses from 1 on (0 is null). zR is its meaning. -/
abbrev zV : Type := Int ⊕ Int ⊕ Nat ⊕ Unit
abbrev zI (x : Int) : zV := .inl x
abbrev zL (x : Int) : zV := .inr (.inl x)
abbrev zA (a : Nat) : zV := .inr (.inr (.inl a))
abbrev zU : zV := .inr (.inr (.inr ()))
/-- cells made, places made, shapes, references, numbers -/
abbrev zS : Type := Nat × Nat × (Nat → Nat × Nat) × (Nat → Nat → Nat) × (Nat → Nat → Int)
abbrev zO : Type := Option (zV × zS)
def zw32 (x : Int) : Int := (x + 2147483648) % 4294967296 - 2147483648
def zw64 (x : Int) : Int := (x + 9223372036854775808) % 18446744073709551616 - 9223372036854775808
def zand (x y : Int) : Int := (Int32.ofInt x &&& Int32.ofInt y).toInt
def zor (x y : Int) : Int := (Int32.ofInt x ||| Int32.ofInt y).toInt
def zxor (x y : Int) : Int := (Int32.ofInt x ^^^ Int32.ofInt y).toInt
def zshl (x y : Int) : Int := (Int32.ofInt x <<< (Int32.ofInt y &&& 31)).toInt
def zshr (x y : Int) : Int := (Int32.ofInt x >>> (Int32.ofInt y &&& 31)).toInt
def zushr (x y : Int) : Int := ((Int32.ofInt x).toUInt32 >>> ((Int32.ofInt y).toUInt32 &&& 31)).toInt32.toInt
def zlor (x y : Int) : Int := (Int64.ofInt x ||| Int64.ofInt y).toInt
def zlshl (x y : Int) : Int := (Int64.ofInt x <<< ((Int32.ofInt y).toInt64 &&& 63)).toInt
def zlshr (x y : Int) : Int := (Int64.ofInt x >>> ((Int32.ofInt y).toInt64 &&& 63)).toInt
def zcmp (x y : Int) : Int := if x < y then -1 else if x = y then 0 else 1
def znth {α : Type} (d : α) : List α → Nat → α
  | [], _ => d
  | a :: _, 0 => a
  | _ :: l, n + 1 => znth d l n
def znth2 {α : Type} (d : α) (l : List (List α)) (n : Nat) : α := znth d (znth [] l (n / 16)) (n % 16)
def zset : List zV → Nat → zV → List zV
  | [], _, _ => []
  | _ :: l, 0, v => v :: l
  | a :: l, n + 1, v => a :: zset l n v
/-- a long whose second half is written is gone -/
def zkil (ls : List zV) : Nat → List zV
  | 0 => ls
  | n + 1 => match znth zU ls n with
    | .inr (.inl _) => zset ls n zU
    | _ => ls
def zst1 (ls : List zV) (n : Nat) (v : zV) : List zV := zset (zkil ls n) n v
def zst2 (ls : List zV) (n : Nat) (v : zV) : List zV := zset (zset (zkil ls n) n v) (n + 1) zU
def zexp : List zV → List zV
  | [] => []
  | .inr (.inl x) :: l => zL x :: zU :: zexp l
  | v :: l => v :: zexp l
def zpad : List zV → Nat → List zV
  | [], n => List.replicate n zU
  | v :: l, 0 => v :: l
  | v :: l, n + 1 => v :: zpad l n
def zup (M : Nat → Nat → Int) (a k : Nat) (x : Int) : Nat → Nat → Int := fun q j => if q = a ∧ j = k then x else M q j
def zupR (M : Nat → Nat → Nat) (a k : Nat) (x : Nat) : Nat → Nat → Nat := fun q j => if q = a ∧ j = k then x else M q j
def zupS (M : Nat → Nat × Nat) (a : Nat) (x : Nat × Nat) : Nat → Nat × Nat := fun q => if q = a then x else M q
def zrow {α : Type} (M : Nat → Nat → α) (a : Nat) (f : Nat → α) : Nat → Nat → α := fun q j => if q = a then f j else M q j
def zrd (t r : Nat) (x : Int) : zV := match t with
  | 1 => zL x
  | 2 => zA r
  | _ => zI x
def zbI (o : zO) (f : Int → zS → zO) : zO := match o with
  | some (.inl x, σ) => f x σ
  | _ => none
def zbL (o : zO) (f : Int → zS → zO) : zO := match o with
  | some (.inr (.inl x), σ) => f x σ
  | _ => none
def zbA (o : zO) (f : Nat → zS → zO) : zO := match o with
  | some (.inr (.inr (.inl x)), σ) => f x σ
  | _ => none
def zbV (o : zO) (f : zS → zO) : zO := match o with
  | some (.inr (.inr (.inr _)), σ) => f σ
  | _ => none
def zsw (x : Int) (d : Nat) (k : Nat → zO) : Int → List Int → zO
  | _, [] => k d
  | lo, t :: ts => if x = lo then k t.toNat else zsw x d k (lo + 1) ts
def zlk (x : Int) (d : Nat) (k : Nat → zO) : List (Int × Int) → zO
  | [] => k d
  | t :: ts => if x = t.1 then k t.2.toNat else zlk x d k ts
def zcw : List zV → Nat
  | [] => 0
  | .inr (.inl _) :: l => 2 + zcw l
  | _ :: l => 1 + zcw l
/-- one instruction of the small machine -/
def zstp (cal : Nat → List zV → zS → zO) (k : Nat → List zV → List zV → zS → zO) (ins : Instr) (pc : Nat) (ls st : List zV) (σ : zS) : zO :=
  match ins with
  | .iload n => match znth zU ls n with
    | .inl x => k (pc + 1) ls (zI x :: st) σ
    | _ => none
  | .lload n => match znth zU ls n with
    | .inr (.inl x) => k (pc + 1) ls (zL x :: st) σ
    | _ => none
  | .aload n => match znth zU ls n with
    | .inr (.inr (.inl x)) => k (pc + 1) ls (zA x :: st) σ
    | _ => none
  | .istore n => match st with
    | .inl x :: st' => k (pc + 1) (zst1 ls n (zI x)) st' σ
    | _ => none
  | .lstore n => match st with
    | .inr (.inl x) :: st' => k (pc + 1) (zst2 ls n (zL x)) st' σ
    | _ => none
  | .astore n => match st with
    | .inr (.inr (.inl x)) :: st' => k (pc + 1) (zst1 ls n (zA x)) st' σ
    | _ => none
  | .bipush v => k (pc + 1) ls (zI v :: st) σ
  | .iconst v => k (pc + 1) ls (zI v :: st) σ
  | .sipush v => k (pc + 1) ls (zL v :: st) σ
  | .aconst_null => k (pc + 1) ls (zA 0 :: st) σ
  | .ldc q => k (pc + 1) ls (zA q :: st) σ
  | .getstatic q => k (pc + 1) ls (zA q :: st) σ
  | .iinc n c => match znth zU ls n with
    | .inl x => k (pc + 1) (zst1 ls n (zI (zw32 (x + c)))) st σ
    | _ => none
  | .iadd => match st with
    | .inl y :: .inl x :: st' => k (pc + 1) ls (zI (zw32 (x + y)) :: st') σ
    | _ => none
  | .isub => match st with
    | .inl y :: .inl x :: st' => k (pc + 1) ls (zI (zw32 (x - y)) :: st') σ
    | _ => none
  | .imul => match st with
    | .inl y :: .inl x :: st' => k (pc + 1) ls (zI (zw32 (x * y)) :: st') σ
    | _ => none
  | .idiv => match st with
    | .inl y :: .inl x :: st' => if y = 0 then none else k (pc + 1) ls (zI (zw32 (x.tdiv y)) :: st') σ
    | _ => none
  | .irem => match st with
    | .inl y :: .inl x :: st' => if y = 0 then none else k (pc + 1) ls (zI (x.tmod y) :: st') σ
    | _ => none
  | .iand => match st with
    | .inl y :: .inl x :: st' => k (pc + 1) ls (zI (zand x y) :: st') σ
    | _ => none
  | .ior => match st with
    | .inl y :: .inl x :: st' => k (pc + 1) ls (zI (zor x y) :: st') σ
    | _ => none
  | .ixor => match st with
    | .inl y :: .inl x :: st' => k (pc + 1) ls (zI (zxor x y) :: st') σ
    | _ => none
  | .ishl => match st with
    | .inl y :: .inl x :: st' => k (pc + 1) ls (zI (zshl x y) :: st') σ
    | _ => none
  | .ishr => match st with
    | .inl y :: .inl x :: st' => k (pc + 1) ls (zI (zshr x y) :: st') σ
    | _ => none
  | .iushr => match st with
    | .inl y :: .inl x :: st' => k (pc + 1) ls (zI (zushr x y) :: st') σ
    | _ => none
  | .fadd => match st with
    | .inl y :: .inl x :: st' => match (zcw st').ble 8 with
      | true => k (pc + 1) ls (zI (max x y) :: st') σ
      | false => none
    | _ => none
  | .fsub => match st with
    | .inl y :: .inl x :: st' => match (zcw st').ble 8 with
      | true => k (pc + 1) ls (zI (min x y) :: st') σ
      | false => none
    | _ => none
  | .ineg => match st with
    | .inl x :: st' => k (pc + 1) ls (zI (zw32 (-x)) :: st') σ
    | _ => none
  | .i2l => match st with
    | .inl x :: st' => k (pc + 1) ls (zL x :: st') σ
    | _ => none
  | .l2i => match st with
    | .inr (.inl x) :: st' => k (pc + 1) ls (zI (zw32 x) :: st') σ
    | _ => none
  | .i2c => match st with
    | .inl x :: st' => k (pc + 1) ls (zI (x % 65536) :: st') σ
    | _ => none
  | .i2b => match st with
    | .inl x :: st' => k (pc + 1) ls (zI ((x + 128) % 256 - 128) :: st') σ
    | _ => none
  | .ladd => match st with
    | .inr (.inl y) :: .inr (.inl x) :: st' => k (pc + 1) ls (zL (zw64 (x + y)) :: st') σ
    | _ => none
  | .lsub => match st with
    | .inr (.inl y) :: .inr (.inl x) :: st' => k (pc + 1) ls (zL (zw64 (x - y)) :: st') σ
    | _ => none
  | .lmul => match st with
    | .inr (.inl y) :: .inr (.inl x) :: st' => k (pc + 1) ls (zL (zw64 (x * y)) :: st') σ
    | _ => none
  | .ldiv => match st with
    | .inr (.inl y) :: .inr (.inl x) :: st' => if y = 0 then none else k (pc + 1) ls (zL (zw64 (x.tdiv y)) :: st') σ
    | _ => none
  | .lrem => match st with
    | .inr (.inl y) :: .inr (.inl x) :: st' => if y = 0 then none else k (pc + 1) ls (zL (x.tmod y) :: st') σ
    | _ => none
  | .lneg => match st with
    | .inr (.inl x) :: st' => k (pc + 1) ls (zL (zw64 (-x)) :: st') σ
    | _ => none
  | .lor => match st with
    | .inr (.inl y) :: .inr (.inl x) :: st' => k (pc + 1) ls (zL (zlor x y) :: st') σ
    | _ => none
  | .lshl => match st with
    | .inl y :: .inr (.inl x) :: st' => k (pc + 1) ls (zL (zlshl x y) :: st') σ
    | _ => none
  | .lshr => match st with
    | .inl y :: .inr (.inl x) :: st' => k (pc + 1) ls (zL (zlshr x y) :: st') σ
    | _ => none
  | .lcmp => match st with
    | .inr (.inl y) :: .inr (.inl x) :: st' => k (pc + 1) ls (zI (zcmp x y) :: st') σ
    | _ => none
  | .goto t => k t.toNat ls st σ
  | .ifCond c t => match st with
    | .inl x :: st' => match c with
      | .eq => if x = 0 then k t.toNat ls st' σ else k (pc + 1) ls st' σ
      | .ne => if x = 0 then k (pc + 1) ls st' σ else k t.toNat ls st' σ
      | .lt => if x < 0 then k t.toNat ls st' σ else k (pc + 1) ls st' σ
      | .ge => if x < 0 then k (pc + 1) ls st' σ else k t.toNat ls st' σ
      | .gt => if 0 < x then k t.toNat ls st' σ else k (pc + 1) ls st' σ
      | .le => if 0 < x then k (pc + 1) ls st' σ else k t.toNat ls st' σ
    | _ => none
  | .if_icmp c t => match st with
    | .inl y :: .inl x :: st' => match c with
      | .eq => if x = y then k t.toNat ls st' σ else k (pc + 1) ls st' σ
      | .ne => if x = y then k (pc + 1) ls st' σ else k t.toNat ls st' σ
      | .lt => if x < y then k t.toNat ls st' σ else k (pc + 1) ls st' σ
      | .ge => if x < y then k (pc + 1) ls st' σ else k t.toNat ls st' σ
      | .gt => if y < x then k t.toNat ls st' σ else k (pc + 1) ls st' σ
      | .le => if y < x then k (pc + 1) ls st' σ else k t.toNat ls st' σ
    | _ => none
  | .ifnull t => match st with
    | .inr (.inr (.inl a)) :: st' => if a = 0 then k t.toNat ls st' σ else if (σ.2.2.1 a).1 = 0 then none else k (pc + 1) ls st' σ
    | _ => none
  | .ifnonnull t => match st with
    | .inr (.inr (.inl a)) :: st' => if a = 0 then k (pc + 1) ls st' σ else if (σ.2.2.1 a).1 = 0 then none else k t.toNat ls st' σ
    | _ => none
  | .tableswitch d lo _ offs => match st with
    | .inl x :: st' => zsw x d.toNat (fun t => k t ls st' σ) lo offs.toList
    | _ => none
  | .lookupswitch d ps => match st with
    | .inl x :: st' => zlk x d.toNat (fun t => k t ls st' σ) ps.toList
    | _ => none
  | .dup => match st with
    | .inl x :: st' => k (pc + 1) ls (zI x :: zI x :: st') σ
    | .inr (.inr (.inl a)) :: st' => k (pc + 1) ls (zA a :: zA a :: st') σ
    | _ => none
  | .dup2 => match st with
    | .inr (.inl x) :: st' => k (pc + 1) ls (zL x :: zL x :: st') σ
    | .inl y :: .inl x :: st' => k (pc + 1) ls (zI y :: zI x :: zI y :: zI x :: st') σ
    | .inl y :: .inr (.inr (.inl a)) :: st' => k (pc + 1) ls (zI y :: zA a :: zI y :: zA a :: st') σ
    | _ => none
  | .pop => match st with
    | .inl _ :: st' => k (pc + 1) ls st' σ
    | .inr (.inr (.inl _)) :: st' => k (pc + 1) ls st' σ
    | _ => none
  | .getfield f => match st with
    | .inr (.inr (.inl a)) :: st' => if (σ.2.2.1 a).1 = f / 128 + 1 then k (pc + 1) ls (zrd (f % 4) (σ.2.2.2.1 a (f / 4 % 32)) (σ.2.2.2.2 a (f / 4 % 32)) :: st') σ else none
    | _ => none
  | .putfield f => match f % 4, st with
    | 0, .inl x :: .inr (.inr (.inl a)) :: st' => if (σ.2.2.1 a).1 = f / 128 + 1 then k (pc + 1) ls st' (σ.1, σ.2.1, σ.2.2.1, σ.2.2.2.1, zup σ.2.2.2.2 a (f / 4 % 32) x) else none
    | 1, .inr (.inl x) :: .inr (.inr (.inl a)) :: st' => if (σ.2.2.1 a).1 = f / 128 + 1 then k (pc + 1) ls st' (σ.1, σ.2.1, σ.2.2.1, σ.2.2.2.1, zup σ.2.2.2.2 a (f / 4 % 32) x) else none
    | 2, .inr (.inr (.inl r)) :: .inr (.inr (.inl a)) :: st' => if (σ.2.2.1 a).1 = f / 128 + 1 then k (pc + 1) ls st' (σ.1, σ.2.1, σ.2.2.1, zupR σ.2.2.2.1 a (f / 4 % 32) r, σ.2.2.2.2) else none
    | 3, .inl x :: .inr (.inr (.inl a)) :: st' => if (σ.2.2.1 a).1 = f / 128 + 1 then if x = 0 ∨ x = 1 then k (pc + 1) ls st' (σ.1, σ.2.1, σ.2.2.1, σ.2.2.2.1, zup σ.2.2.2.2 a (f / 4 % 32) x) else none else none
    | _, _ => none
  | .multianewarray c n => k (pc + 1) ls (zA σ.1 :: st) (σ.1 + 1, σ.2.1 + n, zupS σ.2.2.1 σ.1 (c + 1, n), zrow σ.2.2.2.1 σ.1 (fun _ => 0), zrow σ.2.2.2.2 σ.1 (fun _ => 0))
  | .anewarray t => match st with
    | .inl n :: st' => if 0 ≤ n ∧ n ≤ 100000 then k (pc + 1) ls (zA σ.1 :: st') (σ.1 + 1, σ.2.1 + n.toNat, zupS σ.2.2.1 σ.1 (t, n.toNat), zrow σ.2.2.2.1 σ.1 (fun _ => 0), zrow σ.2.2.2.2 σ.1 (fun _ => 0)) else none
    | _ => none
  | .arraylength => match st with
    | .inr (.inr (.inl a)) :: st' => if 20 ≤ (σ.2.2.1 a).1 ∧ (σ.2.2.1 a).1 ≠ 32 then k (pc + 1) ls (zI ((σ.2.2.1 a).2 : Nat) :: st') σ else none
    | _ => none
  | .iaload => match st with
    | .inl i :: .inr (.inr (.inl a)) :: st' => if ((σ.2.2.1 a).1 = 20 ∨ (σ.2.2.1 a).1 = 30 ∨ (σ.2.2.1 a).1 = 31) ∧ 0 ≤ i ∧ i < ((σ.2.2.1 a).2 : Nat) then k (pc + 1) ls (zI (σ.2.2.2.2 a i.toNat) :: st') σ else none
    | _ => none
  | .caload => match st with
    | .inl i :: .inr (.inr (.inl a)) :: st' => if (σ.2.2.1 a).1 = 21 ∧ 0 ≤ i ∧ i < ((σ.2.2.1 a).2 : Nat) then k (pc + 1) ls (zI (σ.2.2.2.2 a i.toNat) :: st') σ else none
    | _ => none
  | .baload => match st with
    | .inl i :: .inr (.inr (.inl a)) :: st' => if ((σ.2.2.1 a).1 = 23 ∨ (σ.2.2.1 a).1 = 33) ∧ 0 ≤ i ∧ i < ((σ.2.2.1 a).2 : Nat) then k (pc + 1) ls (zI (σ.2.2.2.2 a i.toNat) :: st') σ else none
    | _ => none
  | .laload => match st with
    | .inl i :: .inr (.inr (.inl a)) :: st' => if (σ.2.2.1 a).1 = 22 ∧ 0 ≤ i ∧ i < ((σ.2.2.1 a).2 : Nat) then k (pc + 1) ls (zL (σ.2.2.2.2 a i.toNat) :: st') σ else none
    | _ => none
  | .aaload => match st with
    | .inl i :: .inr (.inr (.inl a)) :: st' => if ((σ.2.2.1 a).1 = 24 ∨ (σ.2.2.1 a).1 = 25) ∧ 0 ≤ i ∧ i < ((σ.2.2.1 a).2 : Nat) then k (pc + 1) ls (zA (σ.2.2.2.1 a i.toNat) :: st') σ else none
    | _ => none
  | .iastore => match st with
    | .inl x :: .inl i :: .inr (.inr (.inl a)) :: st' => if (σ.2.2.1 a).1 = 20 ∧ 0 ≤ i ∧ i < ((σ.2.2.1 a).2 : Nat) then k (pc + 1) ls st' (σ.1, σ.2.1, σ.2.2.1, σ.2.2.2.1, zup σ.2.2.2.2 a i.toNat x) else none
    | _ => none
  | .castore => match st with
    | .inl x :: .inl i :: .inr (.inr (.inl a)) :: st' => if (σ.2.2.1 a).1 = 21 ∧ 0 ≤ i ∧ i < ((σ.2.2.1 a).2 : Nat) then if 0 ≤ x ∧ x < 65536 then k (pc + 1) ls st' (σ.1, σ.2.1, σ.2.2.1, σ.2.2.2.1, zup σ.2.2.2.2 a i.toNat x) else none else none
    | _ => none
  | .bastore => match st with
    | .inl x :: .inl i :: .inr (.inr (.inl a)) :: st' => if (σ.2.2.1 a).1 = 23 ∧ 0 ≤ i ∧ i < ((σ.2.2.1 a).2 : Nat) then if x = 0 ∨ x = 1 then k (pc + 1) ls st' (σ.1, σ.2.1, σ.2.2.1, σ.2.2.2.1, zup σ.2.2.2.2 a i.toNat x) else none else none
    | _ => none
  | .lastore => match st with
    | .inr (.inl x) :: .inl i :: .inr (.inr (.inl a)) :: st' => if (σ.2.2.1 a).1 = 22 ∧ 0 ≤ i ∧ i < ((σ.2.2.1 a).2 : Nat) then k (pc + 1) ls st' (σ.1, σ.2.1, σ.2.2.1, σ.2.2.2.1, zup σ.2.2.2.2 a i.toNat x) else none
    | _ => none
  | .aastore => match st with
    | .inr (.inr (.inl r)) :: .inl i :: .inr (.inr (.inl a)) :: st' => if (((σ.2.2.1 a).1 = 24 ∧ (r = 0 ∨ (σ.2.2.1 r).1 = 5)) ∨ ((σ.2.2.1 a).1 = 25 ∧ (r = 0 ∨ (σ.2.2.1 r).1 = 7))) ∧ 0 ≤ i ∧ i < ((σ.2.2.1 a).2 : Nat) then k (pc + 1) ls st' (σ.1, σ.2.1, σ.2.2.1, zupR σ.2.2.2.1 a i.toNat r, σ.2.2.2.2) else none
    | _ => none
  | .invokeinterface j nt => match (zcw (st.drop (nt / 4))).ble 8 && (nt / 4).ble st.length, nt % 4 with
    | true, 0 => zbI (cal j (st.take (nt / 4)).reverse σ) (fun x σ' => k (pc + 1) ls (zI x :: st.drop (nt / 4)) σ')
    | true, 1 => zbL (cal j (st.take (nt / 4)).reverse σ) (fun x σ' => k (pc + 1) ls (zL x :: st.drop (nt / 4)) σ')
    | true, 2 => zbA (cal j (st.take (nt / 4)).reverse σ) (fun x σ' => k (pc + 1) ls (zA x :: st.drop (nt / 4)) σ')
    | true, 3 => zbV (cal j (st.take (nt / 4)).reverse σ) (fun σ' => k (pc + 1) ls (st.drop (nt / 4)) σ')
    | _, _ => none
  | .monitorexit => match st with
    | .inl n :: .inl dp :: .inr (.inr (.inl a)) :: .inl sp :: .inr (.inr (.inl b)) :: st' => if ((σ.2.2.1 a).1 = 20 ∧ (σ.2.2.1 b).1 = 20) ∧ (0 ≤ n ∧ 0 ≤ dp ∧ 0 ≤ sp) ∧ sp + n ≤ ((σ.2.2.1 b).2 : Nat) ∧ dp + n ≤ ((σ.2.2.1 a).2 : Nat) ∧ st'.length ≤ 4 then k (pc + 1) ls st' (σ.1, σ.2.1, σ.2.2.1, σ.2.2.2.1, zrow σ.2.2.2.2 a (va_cpy (σ.2.2.2.2 b) (σ.2.2.2.2 a) sp.toNat dp.toNat n.toNat)) else none
    | _ => none
  | .swap => match st with
    | .inr (.inr (.inl a)) :: st' => if (σ.2.2.1 a).1 = 20 ∧ zcw st' ≤ 8 then k (pc + 1) ls (zA σ.1 :: st') (σ.1 + 1, σ.2.1 + (σ.2.2.1 a).2, zupS σ.2.2.1 σ.1 (20, (σ.2.2.1 a).2), zrow σ.2.2.2.1 σ.1 (fun _ => 0), zrow σ.2.2.2.2 σ.1 (σ.2.2.2.2 a)) else none
    | _ => none
  | .monitorenter => match st with
    | .inr (.inr (.inl a)) :: st' => if (σ.2.2.1 a).1 ≠ 0 ∧ st'.length ≤ 4 then k (pc + 1) ls st' σ else none
    | _ => none
  | .checkcast _ => match st with
    | .inr (.inr (.inl a)) :: st' => if (σ.2.2.1 a).1 = 20 then k (pc + 1) ls (zA a :: st') σ else none
    | _ => none
  | .ireturn => match st with
    | [.inl x] => some (zI x, σ)
    | _ => none
  | .ret t => match st with
    | [.inl x] => if (t = 4 ∧ (x = 0 ∨ x = 1)) ∨ (t = 5 ∧ 0 ≤ x ∧ x < 65536) ∨ (t = 6 ∧ -128 ≤ x ∧ x < 128) then some (zI x, σ) else none
    | _ => none
  | .lreturn => match st with
    | [.inr (.inl x)] => some (zL x, σ)
    | _ => none
  | .areturn => match st with
    | [.inr (.inr (.inl a))] => some (zA a, σ)
    | _ => none
  | .return_ => match st with
    | [] => some (zU, σ)
    | _ => none
  | _ => none
