/-! the blocks are the code: a check by program, and what it gives -/
def ilen : Instr → Nat
  | .bipush _ | .iload _ | .lload _ | .aload _ | .istore _ | .lstore _ | .astore _ | .ldc _ => 2
  | .sipush _ | .iinc _ _ | .ldc_w _ | .ldc2_w _ | .getfield _ | .putfield _ | .invokevirtual _ | .invokestatic _ | .goto _ | .ifCond _ _ | .if_icmp _ _ => 3
  | _ => 1
/-- of a method y0 of class o: is this the instruction at pc, with what the tables say of it -/
def okI (o y0 pc len : Nat) (it : Item) : Bool := match it with
  | (ins, a, info) => match ins with
    | .goto off => decide (len = 3) && decide ((pc : Int) + off = (a : Int))
    | .ifCond _ off => decide (len = 3) && decide ((pc : Int) + off = (a : Int))
    | .if_icmp _ off => decide (len = 3) && decide ((pc : Int) + off = (a : Int))
    | .bipush n => decide (len = 2) && decide ((Int8.ofInt n).toInt32 = Int32.ofInt n)
    | .sipush n => decide (len = 3) && decide ((Int16.ofInt n).toInt32 = Int32.ofInt n)
    | .istore_n n => decide (len = 1) && decide (n.val < mxl y0)
    | .astore_n n => decide (len = 1) && decide (n.val < mxl y0)
    | .lstore_n n => decide (len = 1) && decide (n.val + 1 < mxl y0)
    | .istore n => decide (len = 2) && decide (n < mxl y0)
    | .astore n => decide (len = 2) && decide (n < mxl y0)
    | .lstore n => decide (len = 2) && decide (n + 1 < mxl y0)
    | .iinc n _ => decide (len = 3) && decide (n < mxl y0)
    | .ldc idx => match info with
      | [] => decide (len = 2) && (CKo o).any (fun e => Nat.beq e.1 idx && Nat.beq e.2.1 a)
      | t :: _ => decide (len = 2) && (decide (t = 67) && (decide (o = 12) && (decide (idx = 187) && decide (a = 1))))
    | .ldc_w idx => decide (len = 3) && (CKo o).any (fun e => Nat.beq e.1 idx && Nat.beq e.2.1 a)
    | .ldc2_w idx => match info with
      | [] => decide (len = 3) && (CLo o).any (fun e => Nat.beq e.1 idx && Nat.beq e.2.1 a)
      | _ :: _ => decide (len = 3) && (CMo o).any (fun e => Nat.beq e.1 idx && Nat.beq e.2.1 a)
    | .getfield idx => match info with
      | t0 :: k :: kd :: tg :: d :: _ => decide (len = 3) && (decide (a < 13) && ((FLo o).any (fun e => Nat.beq e.1 idx && (Nat.beq e.2.1 a && Nat.beq e.2.2.1 k)) && (decide (k < (fkl a).length) && (decide (sh t0 = (0, a)) && (decide ((fkl a).getD k (9, 0, 0) = (kd, tg, d)) && decide (kd = 0 ∨ kd = 1 ∨ kd = 5 ∨ (kd = 2 ∧ tg < 67 ∧ cn t0 ≤ cn tg) ∨ (kd = 3 ∧ tg < 67 ∧ d ≤ cn tg) ∨ (kd = 4 ∧ tg < 67 ∧ d < cn tg)))))))
      | _ => false
    | .putfield idx => match info with
      | t0 :: k :: kd :: tg :: d :: _ => decide (len = 3) && (decide (a < 13) && ((FLo o).any (fun e => Nat.beq e.1 idx && (Nat.beq e.2.1 a && Nat.beq e.2.2.1 k)) && (decide (k < (fkl a).length) && (decide (sh t0 = (0, a)) && (decide ((fkl a).getD k (9, 0, 0) = (kd, tg, d)) && (decide ((TT a k).2.2.2 = false) && decide ((kd = 0 ∧ tyTT a k = .int) ∨ (kd = 1 ∧ tyTT a k = .long) ∨ (kd = 5 ∧ tyTT a k = .boolean) ∨ (kd = 3 ∧ tg < 67 ∧ tg ≠ 0 ∧ d = cn tg ∧ narrow (tyTT a k) (.ref 0) = .ref 0 ∧ fits (tyTT a k) (.ref 0) = true))))))))
      | _ => false
    | .tableswitch dflt lo hi offs => decide ((pc : Int) + dflt = (a : Int)) && (decide (offs.toList.map (fun o => (pc : Int) + o) = info.map (fun (t : Nat) => (t : Int))) && decide (hi = lo + (info.length : Int) - 1))
    | .lookupswitch dflt pps => decide ((pc : Int) + dflt = (a : Int)) && (decide (pps.toList.map (fun o => (pc : Int) + o.2) = info.map (fun (t : Nat) => (t : Int))) && (pps.toList.zip (pps.toList.drop 1)).all (fun (a, next) => a.1 < next.1))
    | .ireturn => decide (len = 1) && decide ((a = 0 ∧ rt y0 = some .int) ∨ (a = 1 ∧ rt y0 = some .boolean))
    | .lreturn => decide (len = 1) && decide (rt y0 = some .long)
    | .areturn => decide (len = 1) && (match rt y0 with | some (.object _) => true | _ => false)
    | .return_ => decide (len = 1) && decide (rt y0 = none)
    | .invokevirtual idx => match info with
      | [n] => decide (len = 3) && ((decide (n = 1001) && (decide (o = 12) && decide (idx = 154))) || (decide (n = 1002) && (decide (o = 12) && decide (idx = 160))))
      | n :: rk :: tr :: w :: _ => decide (len = 3) && ((MLo o).any (fun e => Nat.beq e.1 idx && Nat.beq e.2.1 a) && (decide (1 ≤ a ∧ a ≤ 336) && (decide (isSt a = false) && (decide (npar a + 1 = n) && (decide (rk = if (rt a).isNone then 0 else 1) && (decide (w = mxl a) && (decide (tr ≠ 0) && (decide (ocl a < 13) && decide (sh tr = (0, ocl a))))))))))
      | _ => false
    | .invokestatic idx => match info with
      | [n] => decide (len = 3) && (decide (n = 1000) && (ACo o).any (fun e => Nat.beq e.1 idx))
      | n :: rk :: _ :: w :: _ => decide (len = 3) && (((MLo o).any (fun e => Nat.beq e.1 idx && Nat.beq e.2.1 a) || (MNo o).any (fun e => Nat.beq e.1 idx && Nat.beq e.2.1 a)) && (decide (1 ≤ a ∧ a ≤ 336) && (decide (isSt a = true) && (decide (npar a = n) && (decide (rk = if (rt a).isNone then 0 else 1) && decide (w = mxl a))))))
      | _ => false
    | ins => decide (len = ilen ins)
def isEnd : Instr → Bool
  | .goto _ | .ireturn | .lreturn | .areturn | .return_ | .tableswitch _ _ _ _ | .lookupswitch _ _ => true
  | _ => false
def chkB (cc : ByteArray) (o y0 : Nat) : Nat → List Item → Bool
  | _, [] => false
  | pc, it :: r => match it.1 with
    | .nop => decide (pc = it.2.1)
    | _ => match decode cc pc with
      | .ok (i, n) => decide (i = it.1) && (okI o y0 pc n it && (isEnd it.1 || chkB cc o y0 (pc + n) r))
      | .error _ => false
