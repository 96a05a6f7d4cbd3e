/-! the abstract machine: values, memory, what an instruction does; no state of the JVM in here -/
/-- an int, a long, or a cell: its kind (tag) and which one of that kind -/
abbrev AV : Type := Int32 ⊕ (Int64 ⊕ (Nat × Nat))
/-- ints, longs, and which one a reference that changes names: by tag, instance, slot -/
abbrev AM : Type := (Nat → Nat → Nat → Int32) × (Nat → Nat → Nat → Int64) × (Nat → Nat → Nat → Nat)
abbrev Item : Type := Instr × Nat × List Nat
abbrev unset : AV := .inr (.inr (0, 0))
def wI (σ : AM) (t i j : Nat) (x : Int32) : AM := (fun t' i' j' => if t' = t ∧ i' = i ∧ j' = j then x else σ.1 t' i' j', σ.2.1, σ.2.2)
def wL (σ : AM) (t i j : Nat) (x : Int64) : AM := (σ.1, fun t' i' j' => if t' = t ∧ i' = i ∧ j' = j then x else σ.2.1 t' i' j', σ.2.2)
def wR (σ : AM) (t i j : Nat) (x : Nat) : AM := (σ.1, σ.2.1, fun t' i' j' => if t' = t ∧ i' = i ∧ j' = j then x else σ.2.2 t' i' j')
def cpI (σ : AM) (t0 i0 t1 i1 sp dp n : Nat) : AM := (fun t i j => if t = t1 ∧ i = i1 ∧ dp ≤ j ∧ j < dp + n then σ.1 t0 i0 (sp + (j - dp)) else σ.1 t i j, σ.2.1, σ.2.2)
def cpL (σ : AM) (t0 i0 t1 i1 sp dp n : Nat) : AM := (σ.1, fun t i j => if t = t1 ∧ i = i1 ∧ dp ≤ j ∧ j < dp + n then σ.2.1 t0 i0 (sp + (j - dp)) else σ.2.1 t i j, σ.2.2)
def lvG : List AV → Nat → AV
  | [], _ => unset
  | v :: _, 0 => v
  | _ :: r, n + 1 => lvG r n
def isL : AV → Bool
  | .inr (.inl _) => true
  | _ => false
/-- a store of one slot -/
def lvS : List AV → Nat → AV → List AV
  | [], _, _ => []
  | _ :: r, 0, v => v :: r
  | x :: r, n + 1, v => (bif Nat.beq n 0 then (bif isL x then unset else x) else x) :: lvS r n v
/-- a store of two slots -/
def lvS2 (l : List AV) (n : Nat) (v : AV) : List AV := lvS (lvS l (n + 1) unset) n v
def ent : Nat → List AV → List AV
  | 0, _ => []
  | n + 1, [] => unset :: ent n []
  | n + 1, .inl x :: r => .inl x :: ent n r
  | n + 1, .inr (.inr q) :: r => .inr (.inr q) :: ent n r
  | 1, .inr (.inl x) :: _ => [.inr (.inl x)]
  | n + 2, .inr (.inl x) :: r => .inr (.inl x) :: unset :: ent n r
def popA : Nat → List AV → List AV → Option (List AV × List AV)
  | 0, acc, st => some (acc, st)
  | _ + 1, _, [] => none
  | n + 1, acc, v :: st => popA n (v :: acc) st
def recvOk : Nat → List AV → Bool
  | 0, _ => true
  | t + 1, .inr (.inr (u, _)) :: _ => Nat.beq u (t + 1)
  | _ + 1, _ => false
def argW : List AV → Nat
  | [] => 0
  | v :: r => (bif isL v then 2 else 1) + argW r
def swT (J : Nat → List AV → List AV → AM → Prop) (x : Int32) (lv s : List AV) (σ : AM) : Int → List Nat → Prop
  | _, [] => True
  | k, t :: r => (x.toInt = k → J t lv s σ) ∧ swT J x lv s σ (k + 1) r
def swL (J : Nat → List AV → List AV → AM → Prop) (x : Int32) (lv s : List AV) (σ : AM) (d : Nat) : List (Int × Int) → List Nat → Prop
  | (k, _) :: ps, t :: r => (x.toInt = k → J t lv s σ) ∧ (¬ x.toInt = k → swL J x lv s σ d ps r)
  | _, _ => J d lv s σ
def cmpI (c : Jvm.ClassFile.Cond) (x y : Int32) (A B : Prop) : Prop := match c with
  | .eq => (x = y → A) ∧ (¬ x = y → B)
  | .ne => (¬ x = y → A) ∧ (x = y → B)
  | .lt => (x < y → A) ∧ (¬ x < y → B)
  | .ge => (y ≤ x → A) ∧ (¬ y ≤ x → B)
  | .gt => (y < x → A) ∧ (¬ y < x → B)
  | .le => (x ≤ y → A) ∧ (¬ x ≤ y → B)
/-- what an instruction asks for and does, with what comes behind it as 'kont' -/
def ex (CALL : Nat → List AV → AM → (AV → AM → Prop) → Prop) (K : AV → AM → Prop) (J : Nat → List AV → List AV → AM → Prop) (it : Item) (lv st : List AV) (σ : AM) (kont : List AV → List AV → AM → Prop) : Prop :=
  match it with
  | (ins, a, info) => match ins with
    | .nop => J a lv st σ
    | .goto _ => J a lv st σ
    | .aload_n n => match lvG lv n.val with
      | .inr (.inr q) => match q with | (t, i) => bif Nat.beq t 0 then False else kont lv (.inr (.inr (t, i)) :: st) σ
      | _ => False
    | .aload n => match lvG lv n with
      | .inr (.inr q) => match q with | (t, i) => bif Nat.beq t 0 then False else kont lv (.inr (.inr (t, i)) :: st) σ
      | _ => False
    | .iload_n n => match lvG lv n.val with
      | .inl x => kont lv (.inl x :: st) σ
      | _ => False
    | .iload n => match lvG lv n with
      | .inl x => kont lv (.inl x :: st) σ
      | _ => False
    | .lload_n n => match lvG lv n.val with
      | .inr (.inl x) => kont lv (.inr (.inl x) :: st) σ
      | _ => False
    | .lload n => match lvG lv n with
      | .inr (.inl x) => kont lv (.inr (.inl x) :: st) σ
      | _ => False
    | .istore_n n => match st with
      | .inl x :: s => kont (lvS lv n.val (.inl x)) s σ
      | _ => False
    | .istore n => match st with
      | .inl x :: s => kont (lvS lv n (.inl x)) s σ
      | _ => False
    | .astore_n n => match st with
      | .inr (.inr (t, i)) :: s => kont (lvS lv n.val (.inr (.inr (t, i)))) s σ
      | _ => False
    | .astore n => match st with
      | .inr (.inr (t, i)) :: s => kont (lvS lv n (.inr (.inr (t, i)))) s σ
      | _ => False
    | .lstore_n n => match st with
      | .inr (.inl x) :: s => kont (lvS2 lv n.val (.inr (.inl x))) s σ
      | _ => False
    | .lstore n => match st with
      | .inr (.inl x) :: s => kont (lvS2 lv n (.inr (.inl x))) s σ
      | _ => False
    | .iinc n k => match lvG lv n with
      | .inl x => kont (lvS lv n (.inl (x + Int32.ofInt k))) st σ
      | _ => False
    | .iconst n => kont lv (.inl (Int32.ofInt n) :: st) σ
    | .bipush n => kont lv (.inl (Int32.ofInt n) :: st) σ
    | .sipush n => kont lv (.inl (Int32.ofInt n) :: st) σ
    | .lconst n => kont lv (.inr (.inl (Int64.ofInt (n.val : Int))) :: st) σ
    | .ldc _ => match info with
      | [] => kont lv (.inl (Int32.ofInt (a : Int)) :: st) σ
      | t :: _ => kont lv (.inr (.inr (t, a)) :: st) σ
    | .ldc_w _ => kont lv (.inl (Int32.ofInt (a : Int)) :: st) σ
    | .ldc2_w _ => match info with
      | [] => kont lv (.inr (.inl (Int64.ofInt (a : Int))) :: st) σ
      | _ :: _ => kont lv (.inr (.inl (Int64.ofInt (-(a : Int)))) :: st) σ
    | .getfield _ => match st, info with
      | .inr (.inr (t, i)) :: s, t0 :: k :: kd :: tg :: d :: _ => bif Nat.beq t t0 then (match kd with
        | 0 => kont lv (.inl (σ.1 t i k) :: s) σ
        | 1 => kont lv (.inr (.inl (σ.2.1 t i k)) :: s) σ
        | 2 => kont lv (.inr (.inr (tg, i)) :: s) σ
        | 3 => σ.2.2 t i k < d ∧ kont lv (.inr (.inr (tg, σ.2.2 t i k)) :: s) σ
        | 4 => kont lv (.inr (.inr (tg, d)) :: s) σ
        | 5 => kont lv (.inl (σ.1 t i k) :: s) σ
        | _ => False) else False
      | _, _ => False
    | .putfield _ => match st, info with
      | v :: .inr (.inr (t, i)) :: s, t0 :: k :: kd :: tg :: _ => bif Nat.beq t t0 then (match kd, v with
        | 0, .inl x => kont lv s (wI σ t i k x)
        | 1, .inr (.inl x) => kont lv s (wL σ t i k x)
        | 3, .inr (.inr (u, x)) => bif Nat.beq u tg then kont lv s (wR σ t i k x) else False
        | 5, .inl x => (x = 0 ∨ x = 1) ∧ kont lv s (wI σ t i k x)
        | _, _ => False) else False
      | _, _ => False
    | .iaload => match st with
      | .inl j :: .inr (.inr (t, i)) :: s => match sh t with
        | (kd, n) => bif Nat.beq kd 1 then vp_in j n ∧ kont lv (.inl (σ.1 t i j.toNatClampNeg) :: s) σ else False
      | _ => False
    | .baload => match st with
      | .inl j :: .inr (.inr (t, i)) :: s => match sh t with
        | (kd, n) => bif Nat.beq kd 3 then vp_in j n ∧ kont lv (.inl (σ.1 t i j.toNatClampNeg) :: s) σ else (bif Nat.beq kd 4 then vp_in j n ∧ kont lv (.inl (σ.1 t i j.toNatClampNeg) :: s) σ else False)
      | _ => False
    | .laload => match st with
      | .inl j :: .inr (.inr (t, i)) :: s => match sh t with
        | (kd, n) => bif Nat.beq kd 2 then vp_in j n ∧ kont lv (.inr (.inl (σ.2.1 t i j.toNatClampNeg)) :: s) σ else False
      | _ => False
    | .aaload => match st with
      | .inl j :: .inr (.inr (t, i)) :: s => match sh t with
        | (kd, n) => bif Nat.beq kd 5 then (match elt t with | (u, d) => vp_in j n ∧ kont lv (.inr (.inr (u, d + j.toNatClampNeg)) :: s) σ) else False
      | _ => False
    | .arraylength => match st with
      | .inr (.inr (t, _)) :: s => match sh t with
        | (kd, n) => bif Nat.beq kd 1 || Nat.beq kd 2 then kont lv (.inl (Int32.ofInt (n : Int)) :: s) σ else False
      | _ => False
    | .iastore => match st with
      | .inl x :: .inl j :: .inr (.inr (t, i)) :: s => match sh t with
        | (kd, n) => bif Nat.beq kd 1 then vp_in j n ∧ kont lv s (wI σ t i j.toNatClampNeg x) else False
      | _ => False
    | .bastore => match st with
      | .inl x :: .inl j :: .inr (.inr (t, i)) :: s => match sh t with
        | (kd, n) => bif Nat.beq kd 3 then vp_in j n ∧ kont lv s (wI σ t i j.toNatClampNeg x.toInt8.toInt32) else (bif Nat.beq kd 4 then vp_in j n ∧ (x = 0 ∨ x = 1) ∧ kont lv s (wI σ t i j.toNatClampNeg x) else False)
      | _ => False
    | .lastore => match st with
      | .inr (.inl x) :: .inl j :: .inr (.inr (t, i)) :: s => match sh t with
        | (kd, n) => bif Nat.beq kd 2 then vp_in j n ∧ kont lv s (wL σ t i j.toNatClampNeg x) else False
      | _ => False
    | .iadd => match st with
      | .inl y :: .inl x :: s => kont lv (.inl (x + y) :: s) σ
      | _ => False
    | .isub => match st with
      | .inl y :: .inl x :: s => kont lv (.inl (x - y) :: s) σ
      | _ => False
    | .imul => match st with
      | .inl y :: .inl x :: s => kont lv (.inl (x * y) :: s) σ
      | _ => False
    | .idiv => match st with
      | .inl y :: .inl x :: s => ¬ y = 0 ∧ kont lv (.inl (x / y) :: s) σ
      | _ => False
    | .irem => match st with
      | .inl y :: .inl x :: s => ¬ y = 0 ∧ kont lv (.inl (x % y) :: s) σ
      | _ => False
    | .ineg => match st with
      | .inl x :: s => kont lv (.inl (-x) :: s) σ
      | _ => False
    | .iand => match st with
      | .inl y :: .inl x :: s => kont lv (.inl (x &&& y) :: s) σ
      | _ => False
    | .ior => match st with
      | .inl y :: .inl x :: s => kont lv (.inl (x ||| y) :: s) σ
      | _ => False
    | .ixor => match st with
      | .inl y :: .inl x :: s => kont lv (.inl (x ^^^ y) :: s) σ
      | _ => False
    | .ishl => match st with
      | .inl y :: .inl x :: s => kont lv (.inl (x <<< (y &&& 31)) :: s) σ
      | _ => False
    | .ishr => match st with
      | .inl y :: .inl x :: s => kont lv (.inl (x >>> (y &&& 31)) :: s) σ
      | _ => False
    | .iushr => match st with
      | .inl y :: .inl x :: s => kont lv (.inl (x.toUInt32 >>> (y.toUInt32 &&& Int32.toUInt32 31)).toInt32 :: s) σ
      | _ => False
    | .ladd => match st with
      | .inr (.inl y) :: .inr (.inl x) :: s => kont lv (.inr (.inl (x + y)) :: s) σ
      | _ => False
    | .lsub => match st with
      | .inr (.inl y) :: .inr (.inl x) :: s => kont lv (.inr (.inl (x - y)) :: s) σ
      | _ => False
    | .lmul => match st with
      | .inr (.inl y) :: .inr (.inl x) :: s => kont lv (.inr (.inl (x * y)) :: s) σ
      | _ => False
    | .ldiv => match st with
      | .inr (.inl y) :: .inr (.inl x) :: s => ¬ y = 0 ∧ kont lv (.inr (.inl (x / y)) :: s) σ
      | _ => False
    | .lrem => match st with
      | .inr (.inl y) :: .inr (.inl x) :: s => ¬ y = 0 ∧ kont lv (.inr (.inl (x % y)) :: s) σ
      | _ => False
    | .land => match st with
      | .inr (.inl y) :: .inr (.inl x) :: s => kont lv (.inr (.inl (x &&& y)) :: s) σ
      | _ => False
    | .lor => match st with
      | .inr (.inl y) :: .inr (.inl x) :: s => kont lv (.inr (.inl (x ||| y)) :: s) σ
      | _ => False
    | .lshl => match st with
      | .inl y :: .inr (.inl x) :: s => kont lv (.inr (.inl (x <<< (y.toInt64 &&& 63))) :: s) σ
      | _ => False
    | .lcmp => match st with
      | .inr (.inl y) :: .inr (.inl x) :: s => kont lv (.inl (lg_cmp x y) :: s) σ
      | _ => False
    | .i2l => match st with
      | .inl x :: s => kont lv (.inr (.inl x.toInt64) :: s) σ
      | _ => False
    | .l2i => match st with
      | .inr (.inl x) :: s => kont lv (.inl x.toInt32 :: s) σ
      | _ => False
    | .i2b => match st with
      | .inl x :: s => kont lv (.inl x.toInt8.toInt32 :: s) σ
      | _ => False
    | .i2s => match st with
      | .inl x :: s => kont lv (.inl x.toInt16.toInt32 :: s) σ
      | _ => False
    | .dup => match st with
      | .inl x :: s => kont lv (.inl x :: .inl x :: s) σ
      | .inr (.inr (t, i)) :: s => kont lv (.inr (.inr (t, i)) :: .inr (.inr (t, i)) :: s) σ
      | _ => False
    | .dup2 => match st with
      | .inl x :: .inr (.inr (t, i)) :: s => kont lv (.inl x :: .inr (.inr (t, i)) :: .inl x :: .inr (.inr (t, i)) :: s) σ
      | _ => False
    | .pop => match st with
      | .inl _ :: s => kont lv s σ
      | .inr (.inr _) :: s => kont lv s σ
      | _ => False
    | .ifCond c _ => match st with
      | .inl x :: s => cmpI c x 0 (J a lv s σ) (kont lv s σ)
      | _ => False
    | .if_icmp c _ => match st with
      | .inl y :: .inl x :: s => cmpI c x y (J a lv s σ) (kont lv s σ)
      | _ => False
    | .tableswitch _ lo hi _ => match st with
      | .inl x :: s => swT J x lv s σ lo info ∧ (x.toInt < lo ∨ hi < x.toInt → J a lv s σ)
      | _ => False
    | .lookupswitch _ ps => match st with
      | .inl x :: s => swL J x lv s σ a ps.toList info
      | _ => False
    | .ireturn => match st with
      | .inl x :: [] => bif Nat.beq a 1 then (x = 0 ∨ x = 1) ∧ K (.inl x) σ else K (.inl x) σ
      | _ => False
    | .lreturn => match st with
      | .inr (.inl x) :: [] => K (.inr (.inl x)) σ
      | _ => False
    | .areturn => match st with
      | .inr (.inr (t, i)) :: [] => bif Nat.beq t 0 then False else K (.inr (.inr (t, i))) σ
      | _ => False
    | .return_ => match st with
      | [] => K unset σ
      | _ => False
    | .invokevirtual _ => match info with
      | [1001] => match st with
        | .inr (.inr (t, i)) :: s => bif Nat.beq t 67 && Nat.ble s.length 4 then kont lv (.inl (Int32.ofInt (slen i : Int)) :: s) σ else False
        | _ => False
      | [1002] => match st with
        | .inl j :: .inr (.inr (t, i)) :: s => bif Nat.beq t 67 && Nat.ble s.length 4 then vp_in j (slen i) ∧ kont lv (.inl (schr i j.toNatClampNeg) :: s) σ else False
        | _ => False
      | n :: rk :: tr :: w :: _ => match popA n [] st with
        | some (args, s) => bif recvOk tr args && (Nat.ble (argW args) w && Nat.ble s.length 4) then CALL a args σ (fun v σ' => kont lv (bif Nat.beq rk 0 then s else v :: s) σ') else False
        | none => False
      | _ => False
    | .invokestatic _ => match info with
      | [1000] => match st with
        | .inl n :: .inl dp :: .inr (.inr (t1, i1)) :: .inl sp :: .inr (.inr (t0, i0)) :: s => match sh t0, sh t1 with
          | (k0, n0), (k1, n1) => bif Nat.beq k0 k1 && Nat.ble s.length 4 then (bif Nat.beq k0 1 then (¬ sp < 0 ∧ ¬ dp < 0 ∧ ¬ n < 0 ∧ sp.toNatClampNeg + n.toNatClampNeg ≤ n0 ∧ dp.toNatClampNeg + n.toNatClampNeg ≤ n1) ∧ kont lv s (cpI σ t0 i0 t1 i1 sp.toNatClampNeg dp.toNatClampNeg n.toNatClampNeg)
            else (bif Nat.beq k0 2 then (¬ sp < 0 ∧ ¬ dp < 0 ∧ ¬ n < 0 ∧ sp.toNatClampNeg + n.toNatClampNeg ≤ n0 ∧ dp.toNatClampNeg + n.toNatClampNeg ≤ n1) ∧ kont lv s (cpL σ t0 i0 t1 i1 sp.toNatClampNeg dp.toNatClampNeg n.toNatClampNeg) else False)) else False
        | _ => False
      | n :: rk :: _ :: w :: _ => match popA n [] st with
        | some (args, s) => bif Nat.ble (argW args) w && Nat.ble s.length 4 then CALL a args σ (fun v σ' => kont lv (bif Nat.beq rk 0 then s else v :: s) σ') else False
        | none => False
      | _ => False
    | _ => False
def wpb (CALL : Nat → List AV → AM → (AV → AM → Prop) → Prop) (K : AV → AM → Prop) (J : Nat → List AV → List AV → AM → Prop) : List Item → List AV → List AV → AM → Prop
  | [], _, _, _ => False
  | it :: r, lv, st, σ => ex CALL K J it lv st σ (fun lv st σ => wpb CALL K J r lv st σ)
