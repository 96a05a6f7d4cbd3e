/-! what an instruction asks for and does is what the machine does -/
def KW0 : String := "turn odds topic cost monk breath rest asleep follows roster hears minute change wake sleep any when silent last paused loop end stop "
def KW1 : String := " turn odds topic monk follows roster hears cost breath rest asleep minute change wake sleep any when loop end stop silent last paused "
def lenS : List Nat := [str0.length, str1.length]
def bytS : List (List Int32) := [str0.map nI, str1.map nI]
/-- the two texts that are constants, two statics of the JDK's, and the links to private methods of nest mates -/
def SW (ad : Nat × Nat → Nat) (U : State) (H : Heap) : Prop := ∃ adV : Nat → Nat, vk_S 2 lenS bytS (fun i => ad (67, i)) adV (AA ad) U H ∧ (vk_R RX8 26 KW0 (ad (67, 0)) U ∧ vk_R RX12 187 KW1 (ad (67, 1)) U) ∧ va_Z "java/lang/String" "COMPACT_STRINGS" "Z" (.int 1) (AA ad) U H ∧ va_Zq "jdk/internal/util/Preconditions" "SIOOBE_FORMATTER" "Ljava/util/function/BiFunction;" (AA ad) U H ∧ ∀ q ∈ NWL, va_Nw (.methodLinkNest q.1 q.2.1 q.2.2 "SilentTurn") U
theorem SW.kept {ad : Nat × Nat → Nat} {U : State} {H H1 : Heap} (h : SW ad U H) (hq : ∀ a : Nat, a < H.size → ¬ AA ad a → H1[a]? = H[a]?) : SW ad U H1 := by
  obtain ⟨adV, h1, h2, h3, h4, h5⟩ := h
  exact ⟨adV, h1.kept hq, h2, h3.kept hq, h4.kept hq, h5⟩
theorem SW.warm {ad : Nat × Nat → Nat} {s U : State} {H : Heap} (hW : s.WarmedH U.vm) (h : SW ad s H) : SW ad U H := by
  obtain ⟨adV, h1, h2, h3, h4, h5⟩ := h
  exact ⟨adV, h1.moved hW.alike, ⟨h2.1.warm hW, h2.2.warm hW⟩, h3.moved hW.alike, h4.moved hW.alike, fun q hq => (h5 q hq).warmM hW⟩
theorem SW.same {ad : Nat × Nat → Nat} {u U : State} {H : Heap} (hv : U.vm = u.vm) (h : SW ad u H) : SW ad U H := by
  obtain ⟨adV, h1, h2, h3, h4, h5⟩ := h
  have ha : u.vm.Alike U.vm := by rw [hv]; exact Vm.Alike.refl _
  exact ⟨adV, h1.moved ha, ⟨h2.1.same hv, h2.2.same hv⟩, h3.moved ha, h4.moved ha, fun q hq => (h5 q hq).same rfl hv.symm⟩
/-- the tables' words that stay -/
def Tg : List Cond := lw_tbl.filter goodWord
theorem goodT {ws : List Cond} (h : ∀ w ∈ ws, w ∈ Tg) : GoodIn Tg ws := fun w hw => ⟨h w hw, good_of_word (List.mem_filter.mp (h w hw)).2⟩
theorem inT {w : Cond} (h1 : w ∈ lw_tbl) (h2 : goodWord w = true) : w ∈ Tg := List.mem_filter.mpr ⟨h1, h2⟩
theorem inTp {w : Cond} (i : Nat) (h1 : lw_tbl[i]? = some w) (h2 : goodWord w = true) : w ∈ Tg := inT (List.mem_of_getElem? h1) h2
theorem lrem_eq (x y : Int64) : x - (x / y) * y = x % y := by
  apply Int64.toInt_inj.mp
  have h1 := Int64.le_toInt (x % y)
  have h2 := Int64.toInt_lt (x % y)
  rw [Int64.toInt_sub, Int64.toInt_mul, Int64.toInt_div, Int.bmod_mul_bmod, Int.sub_bmod_bmod, Int.mul_comm (x.toInt.tdiv y.toInt), ← Int.tmod_def, ← Int64.toInt_mod]
  exact Int.bmod_eq_of_le_mul_two (by omega) (by omega)
def Cx (p : Program) (s : State) (m : MethodId) (args : Array Value) (c : Code) (cc : ByteArray) (D : va_G) (ad : Nat × Nat → Nat) (cA : Nat → ClassId) (nL : Nat) (own : String) : Prop :=
  p.tables.exec = Jvm.exec ∧ c.code = cc ∧ s.vm.findClass own = some m.cls ∧ c.maxLocals = nL ∧ (∀ w ∈ Tg, w.before args s = true) ∧ va_K D clA (tysA cA) s ∧ AdOk ad ∧ SW ad s s.heap
def Gd (p : Program) (l : Launch) (e : Env) (R : Room) (s : State) (m : MethodId) (args : Array Value) (below : List Frame) (meth : Method) (c : Code) (nL : Nat) (Q : State → Prop) (D : va_G) (ad : Nat × Nat → Nat) (cA : Nat → ClassId) (pc : Nat) (lv st : List AV) (σ : AM) : Prop :=
  AllV lv → AllV st → ∀ (H : Heap) (locs : List Loc) (ls : Array Slot), va_P D clA (wsA ad cA σ) H → va_S (AA ad) s.heap H locs → lv_has ls nL (lvc ad 0 lv) → W p l e R s m args below meth c H locs 0 0 Q (F0 m pc ls (st.map (cv ad)))
section SND
variable {p : Program} {l : Launch} {e : Env} {R : Room} {s : State} {m : MethodId} {args : Array Value} {below : List Frame} {meth : Method} {c : Code} {Q : State → Prop} {cc : ByteArray} {D : va_G} {ad : Nat × Nat → Nat} {cA : Nat → ClassId} {nL pc : Nat} {own : String} {lv st : List AV} {σ : AM}
theorem g_iadd {x y : Int32} (C : Cx p s m args c cc D ad cA nL own) (hd : decode cc pc = .ok (.iadd, 1)) (k : Gd p l e R s m args below meth c nL Q D ad cA (pc + 1) lv (.inl (x + y) :: st) σ) : Gd p l e R s m args below meth c nL Q D ad cA pc lv (.inl y :: .inl x :: st) σ := by
  intro hl hs H locs ls hP hS hv
  obtain ⟨hx, hb, -⟩ := C
  exact lv_iadd hx hb hd (k hl (AllV.cons trivial hs.tl.tl) H locs ls hP hS hv)
theorem g_isub {x y : Int32} (C : Cx p s m args c cc D ad cA nL own) (hd : decode cc pc = .ok (.isub, 1)) (k : Gd p l e R s m args below meth c nL Q D ad cA (pc + 1) lv (.inl (x - y) :: st) σ) : Gd p l e R s m args below meth c nL Q D ad cA pc lv (.inl y :: .inl x :: st) σ := by
  intro hl hs H locs ls hP hS hv
  obtain ⟨hx, hb, -⟩ := C
  exact lv_isub hx hb hd (k hl (AllV.cons trivial hs.tl.tl) H locs ls hP hS hv)
theorem g_imul {x y : Int32} (C : Cx p s m args c cc D ad cA nL own) (hd : decode cc pc = .ok (.imul, 1)) (k : Gd p l e R s m args below meth c nL Q D ad cA (pc + 1) lv (.inl (x * y) :: st) σ) : Gd p l e R s m args below meth c nL Q D ad cA pc lv (.inl y :: .inl x :: st) σ := by
  intro hl hs H locs ls hP hS hv
  obtain ⟨hx, hb, -⟩ := C
  exact lv_imul hx hb hd (k hl (AllV.cons trivial hs.tl.tl) H locs ls hP hS hv)
theorem g_iand {x y : Int32} (C : Cx p s m args c cc D ad cA nL own) (hd : decode cc pc = .ok (.iand, 1)) (k : Gd p l e R s m args below meth c nL Q D ad cA (pc + 1) lv (.inl (x &&& y) :: st) σ) : Gd p l e R s m args below meth c nL Q D ad cA pc lv (.inl y :: .inl x :: st) σ := by
  intro hl hs H locs ls hP hS hv
  obtain ⟨hx, hb, -⟩ := C
  exact lv_iand hx hb hd (k hl (AllV.cons trivial hs.tl.tl) H locs ls hP hS hv)
theorem g_ior {x y : Int32} (C : Cx p s m args c cc D ad cA nL own) (hd : decode cc pc = .ok (.ior, 1)) (k : Gd p l e R s m args below meth c nL Q D ad cA (pc + 1) lv (.inl (x ||| y) :: st) σ) : Gd p l e R s m args below meth c nL Q D ad cA pc lv (.inl y :: .inl x :: st) σ := by
  intro hl hs H locs ls hP hS hv
  obtain ⟨hx, hb, -⟩ := C
  exact lv_ior hx hb hd (k hl (AllV.cons trivial hs.tl.tl) H locs ls hP hS hv)
theorem g_ixor {x y : Int32} (C : Cx p s m args c cc D ad cA nL own) (hd : decode cc pc = .ok (.ixor, 1)) (k : Gd p l e R s m args below meth c nL Q D ad cA (pc + 1) lv (.inl (x ^^^ y) :: st) σ) : Gd p l e R s m args below meth c nL Q D ad cA pc lv (.inl y :: .inl x :: st) σ := by
  intro hl hs H locs ls hP hS hv
  obtain ⟨hx, hb, -⟩ := C
  exact lv_ixor hx hb hd (k hl (AllV.cons trivial hs.tl.tl) H locs ls hP hS hv)
theorem g_ishl {x y : Int32} (C : Cx p s m args c cc D ad cA nL own) (hd : decode cc pc = .ok (.ishl, 1)) (k : Gd p l e R s m args below meth c nL Q D ad cA (pc + 1) lv (.inl (x <<< (y &&& 31)) :: st) σ) : Gd p l e R s m args below meth c nL Q D ad cA pc lv (.inl y :: .inl x :: st) σ := by
  intro hl hs H locs ls hP hS hv
  obtain ⟨hx, hb, -⟩ := C
  exact lv_ishl hx hb hd (k hl (AllV.cons trivial hs.tl.tl) H locs ls hP hS hv)
theorem g_ishr {x y : Int32} (C : Cx p s m args c cc D ad cA nL own) (hd : decode cc pc = .ok (.ishr, 1)) (k : Gd p l e R s m args below meth c nL Q D ad cA (pc + 1) lv (.inl (x >>> (y &&& 31)) :: st) σ) : Gd p l e R s m args below meth c nL Q D ad cA pc lv (.inl y :: .inl x :: st) σ := by
  intro hl hs H locs ls hP hS hv
  obtain ⟨hx, hb, -⟩ := C
  exact lv_ishr hx hb hd (k hl (AllV.cons trivial hs.tl.tl) H locs ls hP hS hv)
theorem g_iushr {x y : Int32} (C : Cx p s m args c cc D ad cA nL own) (hd : decode cc pc = .ok (.iushr, 1)) (k : Gd p l e R s m args below meth c nL Q D ad cA (pc + 1) lv (.inl (x.toUInt32 >>> (y.toUInt32 &&& Int32.toUInt32 31)).toInt32 :: st) σ) : Gd p l e R s m args below meth c nL Q D ad cA pc lv (.inl y :: .inl x :: st) σ := by
  intro hl hs H locs ls hP hS hv
  obtain ⟨hx, hb, -⟩ := C
  exact lv_iushr hx hb hd rfl (k hl (AllV.cons trivial hs.tl.tl) H locs ls hP hS hv)
theorem g_idiv {x y : Int32} (C : Cx p s m args c cc D ad cA nL own) (hd : decode cc pc = .ok (.idiv, 1)) (hne : ¬ y = 0) (k : Gd p l e R s m args below meth c nL Q D ad cA (pc + 1) lv (.inl (x / y) :: st) σ) : Gd p l e R s m args below meth c nL Q D ad cA pc lv (.inl y :: .inl x :: st) σ := by
  intro hl hs H locs ls hP hS hv
  obtain ⟨hx, hb, -⟩ := C
  exact lv_idiv hx hb hd hne (k hl (AllV.cons trivial hs.tl.tl) H locs ls hP hS hv)
theorem g_irem {x y : Int32} (C : Cx p s m args c cc D ad cA nL own) (hd : decode cc pc = .ok (.irem, 1)) (hne : ¬ y = 0) (k : Gd p l e R s m args below meth c nL Q D ad cA (pc + 1) lv (.inl (x % y) :: st) σ) : Gd p l e R s m args below meth c nL Q D ad cA pc lv (.inl y :: .inl x :: st) σ := by
  intro hl hs H locs ls hP hS hv
  obtain ⟨hx, hb, -⟩ := C
  have k1 := k hl (AllV.cons trivial hs.tl.tl) H locs ls hP hS hv
  rw [show x % y = x - x / y * y from (irem_eq_mod x y).symm] at k1
  exact lv_irem hx hb hd hne k1
theorem g_ineg {x : Int32} (C : Cx p s m args c cc D ad cA nL own) (hd : decode cc pc = .ok (.ineg, 1)) (k : Gd p l e R s m args below meth c nL Q D ad cA (pc + 1) lv (.inl (-x) :: st) σ) : Gd p l e R s m args below meth c nL Q D ad cA pc lv (.inl x :: st) σ := by
  intro hl hs H locs ls hP hS hv
  obtain ⟨hx, hb, -⟩ := C
  exact lv_ineg hx hb hd (k hl (AllV.cons trivial hs.tl) H locs ls hP hS hv)
theorem g_ladd {x y : Int64} (C : Cx p s m args c cc D ad cA nL own) (hd : decode cc pc = .ok (.ladd, 1)) (k : Gd p l e R s m args below meth c nL Q D ad cA (pc + 1) lv (.inr (.inl (x + y)) :: st) σ) : Gd p l e R s m args below meth c nL Q D ad cA pc lv (.inr (.inl y) :: .inr (.inl x) :: st) σ := by
  intro hl hs H locs ls hP hS hv
  obtain ⟨hx, hb, -⟩ := C
  exact lv_ladd hx hb hd (k hl (AllV.cons trivial hs.tl.tl) H locs ls hP hS hv)
theorem g_lsub {x y : Int64} (C : Cx p s m args c cc D ad cA nL own) (hd : decode cc pc = .ok (.lsub, 1)) (k : Gd p l e R s m args below meth c nL Q D ad cA (pc + 1) lv (.inr (.inl (x - y)) :: st) σ) : Gd p l e R s m args below meth c nL Q D ad cA pc lv (.inr (.inl y) :: .inr (.inl x) :: st) σ := by
  intro hl hs H locs ls hP hS hv
  obtain ⟨hx, hb, -⟩ := C
  exact lv_lsub hx hb hd (k hl (AllV.cons trivial hs.tl.tl) H locs ls hP hS hv)
theorem g_lmul {x y : Int64} (C : Cx p s m args c cc D ad cA nL own) (hd : decode cc pc = .ok (.lmul, 1)) (k : Gd p l e R s m args below meth c nL Q D ad cA (pc + 1) lv (.inr (.inl (x * y)) :: st) σ) : Gd p l e R s m args below meth c nL Q D ad cA pc lv (.inr (.inl y) :: .inr (.inl x) :: st) σ := by
  intro hl hs H locs ls hP hS hv
  obtain ⟨hx, hb, -⟩ := C
  exact lv_lmul hx hb hd (k hl (AllV.cons trivial hs.tl.tl) H locs ls hP hS hv)
theorem g_land {x y : Int64} (C : Cx p s m args c cc D ad cA nL own) (hd : decode cc pc = .ok (.land, 1)) (k : Gd p l e R s m args below meth c nL Q D ad cA (pc + 1) lv (.inr (.inl (x &&& y)) :: st) σ) : Gd p l e R s m args below meth c nL Q D ad cA pc lv (.inr (.inl y) :: .inr (.inl x) :: st) σ := by
  intro hl hs H locs ls hP hS hv
  obtain ⟨hx, hb, -⟩ := C
  exact lv_land hx hb hd (k hl (AllV.cons trivial hs.tl.tl) H locs ls hP hS hv)
theorem g_lor {x y : Int64} (C : Cx p s m args c cc D ad cA nL own) (hd : decode cc pc = .ok (.lor, 1)) (k : Gd p l e R s m args below meth c nL Q D ad cA (pc + 1) lv (.inr (.inl (x ||| y)) :: st) σ) : Gd p l e R s m args below meth c nL Q D ad cA pc lv (.inr (.inl y) :: .inr (.inl x) :: st) σ := by
  intro hl hs H locs ls hP hS hv
  obtain ⟨hx, hb, -⟩ := C
  exact lv_lor hx hb hd (k hl (AllV.cons trivial hs.tl.tl) H locs ls hP hS hv)
theorem g_ldiv {x y : Int64} (C : Cx p s m args c cc D ad cA nL own) (hd : decode cc pc = .ok (.ldiv, 1)) (hne : ¬ y = 0) (k : Gd p l e R s m args below meth c nL Q D ad cA (pc + 1) lv (.inr (.inl (x / y)) :: st) σ) : Gd p l e R s m args below meth c nL Q D ad cA pc lv (.inr (.inl y) :: .inr (.inl x) :: st) σ := by
  intro hl hs H locs ls hP hS hv
  obtain ⟨hx, hb, -⟩ := C
  exact lv_ldiv hx hb hd hne (k hl (AllV.cons trivial hs.tl.tl) H locs ls hP hS hv)
theorem g_lrem {x y : Int64} (C : Cx p s m args c cc D ad cA nL own) (hd : decode cc pc = .ok (.lrem, 1)) (hne : ¬ y = 0) (k : Gd p l e R s m args below meth c nL Q D ad cA (pc + 1) lv (.inr (.inl (x % y)) :: st) σ) : Gd p l e R s m args below meth c nL Q D ad cA pc lv (.inr (.inl y) :: .inr (.inl x) :: st) σ := by
  intro hl hs H locs ls hP hS hv
  obtain ⟨hx, hb, -⟩ := C
  have k1 := k hl (AllV.cons trivial hs.tl.tl) H locs ls hP hS hv
  rw [show x % y = x - x / y * y from (lrem_eq x y).symm] at k1
  exact lv_lrem hx hb hd hne k1
theorem g_lshl {x : Int64} {y : Int32} (C : Cx p s m args c cc D ad cA nL own) (hd : decode cc pc = .ok (.lshl, 1)) (k : Gd p l e R s m args below meth c nL Q D ad cA (pc + 1) lv (.inr (.inl (x <<< (y.toInt64 &&& 63))) :: st) σ) : Gd p l e R s m args below meth c nL Q D ad cA pc lv (.inl y :: .inr (.inl x) :: st) σ := by
  intro hl hs H locs ls hP hS hv
  obtain ⟨hx, hb, -⟩ := C
  exact lv_lshl hx hb hd rfl (k hl (AllV.cons trivial hs.tl.tl) H locs ls hP hS hv)
theorem g_lcmp {x y : Int64} (C : Cx p s m args c cc D ad cA nL own) (hd : decode cc pc = .ok (.lcmp, 1)) (k : Gd p l e R s m args below meth c nL Q D ad cA (pc + 1) lv (.inl (lg_cmp x y) :: st) σ) : Gd p l e R s m args below meth c nL Q D ad cA pc lv (.inr (.inl y) :: .inr (.inl x) :: st) σ := by
  intro hl hs H locs ls hP hS hv
  obtain ⟨hx, hb, -⟩ := C
  exact W.lcmp hx hb hd (k hl (AllV.cons trivial hs.tl.tl) H locs ls hP hS hv)
theorem g_i2l {x : Int32} (C : Cx p s m args c cc D ad cA nL own) (hd : decode cc pc = .ok (.i2l, 1)) (k : Gd p l e R s m args below meth c nL Q D ad cA (pc + 1) lv (.inr (.inl (x.toInt64)) :: st) σ) : Gd p l e R s m args below meth c nL Q D ad cA pc lv (.inl x :: st) σ := by
  intro hl hs H locs ls hP hS hv
  obtain ⟨hx, hb, -⟩ := C
  exact lv_i2l hx hb hd rfl (k hl (AllV.cons trivial hs.tl) H locs ls hP hS hv)
theorem g_l2i {x : Int64} (C : Cx p s m args c cc D ad cA nL own) (hd : decode cc pc = .ok (.l2i, 1)) (k : Gd p l e R s m args below meth c nL Q D ad cA (pc + 1) lv (.inl (x.toInt32) :: st) σ) : Gd p l e R s m args below meth c nL Q D ad cA pc lv (.inr (.inl x) :: st) σ := by
  intro hl hs H locs ls hP hS hv
  obtain ⟨hx, hb, -⟩ := C
  exact lv_l2i hx hb hd rfl (k hl (AllV.cons trivial hs.tl) H locs ls hP hS hv)
theorem g_i2b {x : Int32} (C : Cx p s m args c cc D ad cA nL own) (hd : decode cc pc = .ok (.i2b, 1)) (k : Gd p l e R s m args below meth c nL Q D ad cA (pc + 1) lv (.inl (x.toInt8.toInt32) :: st) σ) : Gd p l e R s m args below meth c nL Q D ad cA pc lv (.inl x :: st) σ := by
  intro hl hs H locs ls hP hS hv
  obtain ⟨hx, hb, -⟩ := C
  exact lv_i2b hx hb hd rfl (k hl (AllV.cons trivial hs.tl) H locs ls hP hS hv)
theorem g_i2s {x : Int32} (C : Cx p s m args c cc D ad cA nL own) (hd : decode cc pc = .ok (.i2s, 1)) (k : Gd p l e R s m args below meth c nL Q D ad cA (pc + 1) lv (.inl (x.toInt16.toInt32) :: st) σ) : Gd p l e R s m args below meth c nL Q D ad cA pc lv (.inl x :: st) σ := by
  intro hl hs H locs ls hP hS hv
  obtain ⟨hx, hb, -⟩ := C
  exact lv_i2s hx hb hd rfl (k hl (AllV.cons trivial hs.tl) H locs ls hP hS hv)
theorem g_iconst {n : Int} (C : Cx p s m args c cc D ad cA nL own) (hd : decode cc pc = .ok (.iconst n, 1)) (k : Gd p l e R s m args below meth c nL Q D ad cA (pc + 1) lv (.inl (Int32.ofInt n) :: st) σ) : Gd p l e R s m args below meth c nL Q D ad cA pc lv (st) σ := by
  intro hl hs H locs ls hP hS hv
  obtain ⟨hx, hb, -⟩ := C
  exact lv_iconst hx hb hd rfl (k hl (AllV.cons trivial hs) H locs ls hP hS hv)
theorem g_bipush {n : Int} (C : Cx p s m args c cc D ad cA nL own) (hd : decode cc pc = .ok (.bipush n, 2)) (hn : (Int8.ofInt n).toInt32 = Int32.ofInt n) (k : Gd p l e R s m args below meth c nL Q D ad cA (pc + 2) lv (.inl (Int32.ofInt n) :: st) σ) : Gd p l e R s m args below meth c nL Q D ad cA pc lv (st) σ := by
  intro hl hs H locs ls hP hS hv
  obtain ⟨hx, hb, -⟩ := C
  exact lv_bipush hx hb hd hn (k hl (AllV.cons trivial hs) H locs ls hP hS hv)
theorem g_sipush {n : Int} (C : Cx p s m args c cc D ad cA nL own) (hd : decode cc pc = .ok (.sipush n, 3)) (hn : (Int16.ofInt n).toInt32 = Int32.ofInt n) (k : Gd p l e R s m args below meth c nL Q D ad cA (pc + 3) lv (.inl (Int32.ofInt n) :: st) σ) : Gd p l e R s m args below meth c nL Q D ad cA pc lv (st) σ := by
  intro hl hs H locs ls hP hS hv
  obtain ⟨hx, hb, -⟩ := C
  exact lv_sipush hx hb hd hn (k hl (AllV.cons trivial hs) H locs ls hP hS hv)
theorem g_lconst {n : Fin 2} (C : Cx p s m args c cc D ad cA nL own) (hd : decode cc pc = .ok (.lconst n, 1)) (k : Gd p l e R s m args below meth c nL Q D ad cA (pc + 1) lv (.inr (.inl (Int64.ofInt (n.val : Int))) :: st) σ) : Gd p l e R s m args below meth c nL Q D ad cA pc lv (st) σ := by
  intro hl hs H locs ls hP hS hv
  obtain ⟨hx, hb, -⟩ := C
  exact lv_lconst hx hb hd rfl (k hl (AllV.cons trivial hs) H locs ls hP hS hv)
theorem g_dupi {x : Int32} (C : Cx p s m args c cc D ad cA nL own) (hd : decode cc pc = .ok (.dup, 1)) (k : Gd p l e R s m args below meth c nL Q D ad cA (pc + 1) lv (.inl x :: .inl x :: st) σ) : Gd p l e R s m args below meth c nL Q D ad cA pc lv (.inl x :: st) σ := by
  intro hl hs H locs ls hP hS hv
  obtain ⟨hx, hb, -⟩ := C
  exact lv_dup hx hb hd rfl (k hl (AllV.cons trivial (AllV.cons trivial hs.tl)) H locs ls hP hS hv)
theorem g_dupr {q : Nat × Nat} (C : Cx p s m args c cc D ad cA nL own) (hd : decode cc pc = .ok (.dup, 1)) (k : Gd p l e R s m args below meth c nL Q D ad cA (pc + 1) lv (.inr (.inr q) :: .inr (.inr q) :: st) σ) : Gd p l e R s m args below meth c nL Q D ad cA pc lv (.inr (.inr q) :: st) σ := by
  intro hl hs H locs ls hP hS hv
  obtain ⟨hx, hb, -⟩ := C
  exact lv_dup hx hb hd rfl (k hl (AllV.cons hs.hd (AllV.cons hs.hd hs.tl)) H locs ls hP hS hv)
theorem g_dup2 {x : Int32} {q : Nat × Nat} (C : Cx p s m args c cc D ad cA nL own) (hd : decode cc pc = .ok (.dup2, 1)) (k : Gd p l e R s m args below meth c nL Q D ad cA (pc + 1) lv (.inl x :: .inr (.inr q) :: .inl x :: .inr (.inr q) :: st) σ) : Gd p l e R s m args below meth c nL Q D ad cA pc lv (.inl x :: .inr (.inr q) :: st) σ := by
  intro hl hs H locs ls hP hS hv
  obtain ⟨hx, hb, -⟩ := C
  exact lv_dup2_11 hx hb hd rfl rfl (k hl (AllV.cons trivial (AllV.cons hs.tl.hd hs)) H locs ls hP hS hv)
theorem g_popi {x : Int32} (C : Cx p s m args c cc D ad cA nL own) (hd : decode cc pc = .ok (.pop, 1)) (k : Gd p l e R s m args below meth c nL Q D ad cA (pc + 1) lv (st) σ) : Gd p l e R s m args below meth c nL Q D ad cA pc lv (.inl x :: st) σ := by
  intro hl hs H locs ls hP hS hv
  obtain ⟨hx, hb, -⟩ := C
  exact lv_pop hx hb hd rfl (k hl hs.tl H locs ls hP hS hv)
theorem g_popr {q : Nat × Nat} (C : Cx p s m args c cc D ad cA nL own) (hd : decode cc pc = .ok (.pop, 1)) (k : Gd p l e R s m args below meth c nL Q D ad cA (pc + 1) lv (st) σ) : Gd p l e R s m args below meth c nL Q D ad cA pc lv (.inr (.inr q) :: st) σ := by
  intro hl hs H locs ls hP hS hv
  obtain ⟨hx, hb, -⟩ := C
  exact lv_pop hx hb hd rfl (k hl hs.tl H locs ls hP hS hv)
theorem g_goto {off : Int} {tgt : Nat} (C : Cx p s m args c cc D ad cA nL own) (hd : decode cc pc = .ok (.goto off, 3)) (ht : (pc : Int) + off = (tgt : Int)) (k : Gd p l e R s m args below meth c nL Q D ad cA tgt lv st σ) : Gd p l e R s m args below meth c nL Q D ad cA pc lv st σ := by
  intro hl hs H locs ls hP hS hv
  obtain ⟨hx, hb, -⟩ := C
  exact lv_goto hx hb hd ht (k hl hs H locs ls hP hS hv)
theorem g_if_eq {x : Int32} {off : Int} {tgt : Nat} (C : Cx p s m args c cc D ad cA nL own) (hd : decode cc pc = .ok (.ifCond .eq off, 3)) (ht : (pc : Int) + off = (tgt : Int)) (k1 : x = 0 → Gd p l e R s m args below meth c nL Q D ad cA tgt lv st σ) (k2 : ¬ x = 0 → Gd p l e R s m args below meth c nL Q D ad cA (pc + 3) lv st σ) : Gd p l e R s m args below meth c nL Q D ad cA pc lv (.inl x :: st) σ := by
  intro hl hs H locs ls hP hS hv
  obtain ⟨hx, hb, -⟩ := C
  exact lv_if_eq hx hb hd ht (fun h => k1 h hl hs.tl H locs ls hP hS hv) (fun h => k2 h hl hs.tl H locs ls hP hS hv)
theorem g_ic_eq {x y : Int32} {off : Int} {tgt : Nat} (C : Cx p s m args c cc D ad cA nL own) (hd : decode cc pc = .ok (.if_icmp .eq off, 3)) (ht : (pc : Int) + off = (tgt : Int)) (k1 : x = y → Gd p l e R s m args below meth c nL Q D ad cA tgt lv st σ) (k2 : ¬ x = y → Gd p l e R s m args below meth c nL Q D ad cA (pc + 3) lv st σ) : Gd p l e R s m args below meth c nL Q D ad cA pc lv (.inl y :: .inl x :: st) σ := by
  intro hl hs H locs ls hP hS hv
  obtain ⟨hx, hb, -⟩ := C
  exact lv_icmp_eq hx hb hd ht (fun h => k1 h hl hs.tl.tl H locs ls hP hS hv) (fun h => k2 h hl hs.tl.tl H locs ls hP hS hv)
theorem g_if_ne {x : Int32} {off : Int} {tgt : Nat} (C : Cx p s m args c cc D ad cA nL own) (hd : decode cc pc = .ok (.ifCond .ne off, 3)) (ht : (pc : Int) + off = (tgt : Int)) (k1 : ¬ x = 0 → Gd p l e R s m args below meth c nL Q D ad cA tgt lv st σ) (k2 : x = 0 → Gd p l e R s m args below meth c nL Q D ad cA (pc + 3) lv st σ) : Gd p l e R s m args below meth c nL Q D ad cA pc lv (.inl x :: st) σ := by
  intro hl hs H locs ls hP hS hv
  obtain ⟨hx, hb, -⟩ := C
  exact lv_if_ne hx hb hd ht (fun h => k1 h hl hs.tl H locs ls hP hS hv) (fun h => k2 h hl hs.tl H locs ls hP hS hv)
theorem g_ic_ne {x y : Int32} {off : Int} {tgt : Nat} (C : Cx p s m args c cc D ad cA nL own) (hd : decode cc pc = .ok (.if_icmp .ne off, 3)) (ht : (pc : Int) + off = (tgt : Int)) (k1 : ¬ x = y → Gd p l e R s m args below meth c nL Q D ad cA tgt lv st σ) (k2 : x = y → Gd p l e R s m args below meth c nL Q D ad cA (pc + 3) lv st σ) : Gd p l e R s m args below meth c nL Q D ad cA pc lv (.inl y :: .inl x :: st) σ := by
  intro hl hs H locs ls hP hS hv
  obtain ⟨hx, hb, -⟩ := C
  exact lv_icmp_ne hx hb hd ht (fun h => k1 h hl hs.tl.tl H locs ls hP hS hv) (fun h => k2 h hl hs.tl.tl H locs ls hP hS hv)
theorem g_if_lt {x : Int32} {off : Int} {tgt : Nat} (C : Cx p s m args c cc D ad cA nL own) (hd : decode cc pc = .ok (.ifCond .lt off, 3)) (ht : (pc : Int) + off = (tgt : Int)) (k1 : x < 0 → Gd p l e R s m args below meth c nL Q D ad cA tgt lv st σ) (k2 : ¬ x < 0 → Gd p l e R s m args below meth c nL Q D ad cA (pc + 3) lv st σ) : Gd p l e R s m args below meth c nL Q D ad cA pc lv (.inl x :: st) σ := by
  intro hl hs H locs ls hP hS hv
  obtain ⟨hx, hb, -⟩ := C
  exact lv_if_lt hx hb hd ht (fun h => k1 h hl hs.tl H locs ls hP hS hv) (fun h => k2 h hl hs.tl H locs ls hP hS hv)
theorem g_ic_lt {x y : Int32} {off : Int} {tgt : Nat} (C : Cx p s m args c cc D ad cA nL own) (hd : decode cc pc = .ok (.if_icmp .lt off, 3)) (ht : (pc : Int) + off = (tgt : Int)) (k1 : x < y → Gd p l e R s m args below meth c nL Q D ad cA tgt lv st σ) (k2 : ¬ x < y → Gd p l e R s m args below meth c nL Q D ad cA (pc + 3) lv st σ) : Gd p l e R s m args below meth c nL Q D ad cA pc lv (.inl y :: .inl x :: st) σ := by
  intro hl hs H locs ls hP hS hv
  obtain ⟨hx, hb, -⟩ := C
  exact lv_icmp_lt hx hb hd ht (fun h => k1 h hl hs.tl.tl H locs ls hP hS hv) (fun h => k2 h hl hs.tl.tl H locs ls hP hS hv)
theorem g_if_ge {x : Int32} {off : Int} {tgt : Nat} (C : Cx p s m args c cc D ad cA nL own) (hd : decode cc pc = .ok (.ifCond .ge off, 3)) (ht : (pc : Int) + off = (tgt : Int)) (k1 : 0 ≤ x → Gd p l e R s m args below meth c nL Q D ad cA tgt lv st σ) (k2 : ¬ 0 ≤ x → Gd p l e R s m args below meth c nL Q D ad cA (pc + 3) lv st σ) : Gd p l e R s m args below meth c nL Q D ad cA pc lv (.inl x :: st) σ := by
  intro hl hs H locs ls hP hS hv
  obtain ⟨hx, hb, -⟩ := C
  exact lv_if_ge hx hb hd ht (fun h => k1 h hl hs.tl H locs ls hP hS hv) (fun h => k2 h hl hs.tl H locs ls hP hS hv)
theorem g_ic_ge {x y : Int32} {off : Int} {tgt : Nat} (C : Cx p s m args c cc D ad cA nL own) (hd : decode cc pc = .ok (.if_icmp .ge off, 3)) (ht : (pc : Int) + off = (tgt : Int)) (k1 : y ≤ x → Gd p l e R s m args below meth c nL Q D ad cA tgt lv st σ) (k2 : ¬ y ≤ x → Gd p l e R s m args below meth c nL Q D ad cA (pc + 3) lv st σ) : Gd p l e R s m args below meth c nL Q D ad cA pc lv (.inl y :: .inl x :: st) σ := by
  intro hl hs H locs ls hP hS hv
  obtain ⟨hx, hb, -⟩ := C
  exact lv_icmp_ge hx hb hd ht (fun h => k1 h hl hs.tl.tl H locs ls hP hS hv) (fun h => k2 h hl hs.tl.tl H locs ls hP hS hv)
theorem g_if_gt {x : Int32} {off : Int} {tgt : Nat} (C : Cx p s m args c cc D ad cA nL own) (hd : decode cc pc = .ok (.ifCond .gt off, 3)) (ht : (pc : Int) + off = (tgt : Int)) (k1 : 0 < x → Gd p l e R s m args below meth c nL Q D ad cA tgt lv st σ) (k2 : ¬ 0 < x → Gd p l e R s m args below meth c nL Q D ad cA (pc + 3) lv st σ) : Gd p l e R s m args below meth c nL Q D ad cA pc lv (.inl x :: st) σ := by
  intro hl hs H locs ls hP hS hv
  obtain ⟨hx, hb, -⟩ := C
  exact lv_if_gt hx hb hd ht (fun h => k1 h hl hs.tl H locs ls hP hS hv) (fun h => k2 h hl hs.tl H locs ls hP hS hv)
theorem g_ic_gt {x y : Int32} {off : Int} {tgt : Nat} (C : Cx p s m args c cc D ad cA nL own) (hd : decode cc pc = .ok (.if_icmp .gt off, 3)) (ht : (pc : Int) + off = (tgt : Int)) (k1 : y < x → Gd p l e R s m args below meth c nL Q D ad cA tgt lv st σ) (k2 : ¬ y < x → Gd p l e R s m args below meth c nL Q D ad cA (pc + 3) lv st σ) : Gd p l e R s m args below meth c nL Q D ad cA pc lv (.inl y :: .inl x :: st) σ := by
  intro hl hs H locs ls hP hS hv
  obtain ⟨hx, hb, -⟩ := C
  exact lv_icmp_gt hx hb hd ht (fun h => k1 h hl hs.tl.tl H locs ls hP hS hv) (fun h => k2 h hl hs.tl.tl H locs ls hP hS hv)
theorem g_if_le {x : Int32} {off : Int} {tgt : Nat} (C : Cx p s m args c cc D ad cA nL own) (hd : decode cc pc = .ok (.ifCond .le off, 3)) (ht : (pc : Int) + off = (tgt : Int)) (k1 : x ≤ 0 → Gd p l e R s m args below meth c nL Q D ad cA tgt lv st σ) (k2 : ¬ x ≤ 0 → Gd p l e R s m args below meth c nL Q D ad cA (pc + 3) lv st σ) : Gd p l e R s m args below meth c nL Q D ad cA pc lv (.inl x :: st) σ := by
  intro hl hs H locs ls hP hS hv
  obtain ⟨hx, hb, -⟩ := C
  exact lv_if_le hx hb hd ht (fun h => k1 h hl hs.tl H locs ls hP hS hv) (fun h => k2 h hl hs.tl H locs ls hP hS hv)
theorem g_ic_le {x y : Int32} {off : Int} {tgt : Nat} (C : Cx p s m args c cc D ad cA nL own) (hd : decode cc pc = .ok (.if_icmp .le off, 3)) (ht : (pc : Int) + off = (tgt : Int)) (k1 : x ≤ y → Gd p l e R s m args below meth c nL Q D ad cA tgt lv st σ) (k2 : ¬ x ≤ y → Gd p l e R s m args below meth c nL Q D ad cA (pc + 3) lv st σ) : Gd p l e R s m args below meth c nL Q D ad cA pc lv (.inl y :: .inl x :: st) σ := by
  intro hl hs H locs ls hP hS hv
  obtain ⟨hx, hb, -⟩ := C
  exact lv_icmp_le hx hb hd ht (fun h => k1 h hl hs.tl.tl H locs ls hP hS hv) (fun h => k2 h hl hs.tl.tl H locs ls hP hS hv)
theorem g_iload_n {n : Fin 4} {x : Int32} (C : Cx p s m args c cc D ad cA nL own) (hd : decode cc pc = .ok (.iload_n n, 1)) (hg : lvG lv n.val = .inl x) (k : Gd p l e R s m args below meth c nL Q D ad cA (pc + 1) lv (.inl x :: st) σ) : Gd p l e R s m args below meth c nL Q D ad cA pc lv st σ := by
  intro hl hs H locs ls hP hS hv
  obtain ⟨hx, hb, -⟩ := C
  have h1 := lv_load hv (k := n.val) (by rw [hg]; rfl)
  rw [hg] at h1
  have h2 := lvG_vv hl n.val
  rw [hg] at h2
  exact lv_iload_n hx hb hd rfl h1 (k hl (AllV.cons h2 hs) H locs ls hP hS hv)
theorem g_lload_n {n : Fin 4} {x : Int64} (C : Cx p s m args c cc D ad cA nL own) (hd : decode cc pc = .ok (.lload_n n, 1)) (hg : lvG lv n.val = .inr (.inl x)) (k : Gd p l e R s m args below meth c nL Q D ad cA (pc + 1) lv (.inr (.inl x) :: st) σ) : Gd p l e R s m args below meth c nL Q D ad cA pc lv st σ := by
  intro hl hs H locs ls hP hS hv
  obtain ⟨hx, hb, -⟩ := C
  have h1 := lv_load hv (k := n.val) (by rw [hg]; rfl)
  rw [hg] at h1
  have h2 := lvG_vv hl n.val
  rw [hg] at h2
  exact lv_lload_n hx hb hd rfl h1 (k hl (AllV.cons h2 hs) H locs ls hP hS hv)
theorem g_aload_n {n : Fin 4} {t i : Nat} (C : Cx p s m args c cc D ad cA nL own) (hd : decode cc pc = .ok (.aload_n n, 1)) (hg : lvG lv n.val = .inr (.inr (t, i))) (h0 : t ≠ 0) (k : Gd p l e R s m args below meth c nL Q D ad cA (pc + 1) lv (.inr (.inr (t, i)) :: st) σ) : Gd p l e R s m args below meth c nL Q D ad cA pc lv st σ := by
  intro hl hs H locs ls hP hS hv
  obtain ⟨hx, hb, -⟩ := C
  have h1 := lv_load hv (k := n.val) (by rw [hg]; cases t with | zero => exact absurd rfl h0 | succ t => rfl)
  rw [hg] at h1
  have h2 := lvG_vv hl n.val
  rw [hg] at h2
  exact lv_aload_n hx hb hd rfl h1 (k hl (AllV.cons h2 hs) H locs ls hP hS hv)
theorem g_istore_n {n : Fin 4} {x : Int32} (C : Cx p s m args c cc D ad cA nL own) (hd : decode cc pc = .ok (.istore_n n, 1)) (hn : n.val < nL) (k : Gd p l e R s m args below meth c nL Q D ad cA (pc + 1) (lvS lv n.val (.inl x)) st σ) : Gd p l e R s m args below meth c nL Q D ad cA pc lv (.inl x :: st) σ := by
  intro hl hs H locs ls hP hS hv
  obtain ⟨hx, hb, -⟩ := C
  exact lv_istore_n hx hb hd rfl hv hn rfl (fun ls hv => k (lvS_vv hs.hd _ hl) hs.tl H locs ls hP hS (lv_st1 (v := .inl x) hv))
theorem g_astore_n {n : Fin 4} {q : Nat × Nat} (C : Cx p s m args c cc D ad cA nL own) (hd : decode cc pc = .ok (.astore_n n, 1)) (hn : n.val < nL) (k : Gd p l e R s m args below meth c nL Q D ad cA (pc + 1) (lvS lv n.val (.inr (.inr q))) st σ) : Gd p l e R s m args below meth c nL Q D ad cA pc lv (.inr (.inr q) :: st) σ := by
  intro hl hs H locs ls hP hS hv
  obtain ⟨hx, hb, -⟩ := C
  exact lv_astore_n hx hb hd rfl hv hn rfl (fun ls hv => k (lvS_vv hs.hd _ hl) hs.tl H locs ls hP hS (lv_st1 (v := .inr (.inr q)) hv))
theorem g_lstore_n {n : Fin 4} {x : Int64} (C : Cx p s m args c cc D ad cA nL own) (hd : decode cc pc = .ok (.lstore_n n, 1)) (hn : n.val + 1 < nL) (k : Gd p l e R s m args below meth c nL Q D ad cA (pc + 1) (lvS2 lv n.val (.inr (.inl x))) st σ) : Gd p l e R s m args below meth c nL Q D ad cA pc lv (.inr (.inl x) :: st) σ := by
  intro hl hs H locs ls hP hS hv
  obtain ⟨hx, hb, -⟩ := C
  exact lv_lstore_n hx hb hd rfl hv hn rfl (fun ls hv => k (lvS_vv hs.hd _ (lvS_vv (v := unset) (Or.inl ⟨rfl, rfl⟩) _ hl)) hs.tl H locs ls hP hS (lv_st2 (v := .inr (.inl x)) hv))
theorem g_iload {n : Nat} {x : Int32} (C : Cx p s m args c cc D ad cA nL own) (hd : decode cc pc = .ok (.iload n, 2)) (hg : lvG lv n = .inl x) (k : Gd p l e R s m args below meth c nL Q D ad cA (pc + 2) lv (.inl x :: st) σ) : Gd p l e R s m args below meth c nL Q D ad cA pc lv st σ := by
  intro hl hs H locs ls hP hS hv
  obtain ⟨hx, hb, -⟩ := C
  have h1 := lv_load hv (k := n) (by rw [hg]; rfl)
  rw [hg] at h1
  have h2 := lvG_vv hl n
  rw [hg] at h2
  exact lv_iload hx hb hd h1 (k hl (AllV.cons h2 hs) H locs ls hP hS hv)
theorem g_lload {n : Nat} {x : Int64} (C : Cx p s m args c cc D ad cA nL own) (hd : decode cc pc = .ok (.lload n, 2)) (hg : lvG lv n = .inr (.inl x)) (k : Gd p l e R s m args below meth c nL Q D ad cA (pc + 2) lv (.inr (.inl x) :: st) σ) : Gd p l e R s m args below meth c nL Q D ad cA pc lv st σ := by
  intro hl hs H locs ls hP hS hv
  obtain ⟨hx, hb, -⟩ := C
  have h1 := lv_load hv (k := n) (by rw [hg]; rfl)
  rw [hg] at h1
  have h2 := lvG_vv hl n
  rw [hg] at h2
  exact lv_lload hx hb hd h1 (k hl (AllV.cons h2 hs) H locs ls hP hS hv)
theorem g_aload {n : Nat} {t i : Nat} (C : Cx p s m args c cc D ad cA nL own) (hd : decode cc pc = .ok (.aload n, 2)) (hg : lvG lv n = .inr (.inr (t, i))) (h0 : t ≠ 0) (k : Gd p l e R s m args below meth c nL Q D ad cA (pc + 2) lv (.inr (.inr (t, i)) :: st) σ) : Gd p l e R s m args below meth c nL Q D ad cA pc lv st σ := by
  intro hl hs H locs ls hP hS hv
  obtain ⟨hx, hb, -⟩ := C
  have h1 := lv_load hv (k := n) (by rw [hg]; cases t with | zero => exact absurd rfl h0 | succ t => rfl)
  rw [hg] at h1
  have h2 := lvG_vv hl n
  rw [hg] at h2
  exact lv_aload hx hb hd h1 (k hl (AllV.cons h2 hs) H locs ls hP hS hv)
theorem g_istore {n : Nat} {x : Int32} (C : Cx p s m args c cc D ad cA nL own) (hd : decode cc pc = .ok (.istore n, 2)) (hn : n < nL) (k : Gd p l e R s m args below meth c nL Q D ad cA (pc + 2) (lvS lv n (.inl x)) st σ) : Gd p l e R s m args below meth c nL Q D ad cA pc lv (.inl x :: st) σ := by
  intro hl hs H locs ls hP hS hv
  obtain ⟨hx, hb, -⟩ := C
  exact lv_istore hx hb hd hv hn rfl (fun ls hv => k (lvS_vv hs.hd _ hl) hs.tl H locs ls hP hS (lv_st1 (v := .inl x) hv))
theorem g_astore {n : Nat} {q : Nat × Nat} (C : Cx p s m args c cc D ad cA nL own) (hd : decode cc pc = .ok (.astore n, 2)) (hn : n < nL) (k : Gd p l e R s m args below meth c nL Q D ad cA (pc + 2) (lvS lv n (.inr (.inr q))) st σ) : Gd p l e R s m args below meth c nL Q D ad cA pc lv (.inr (.inr q) :: st) σ := by
  intro hl hs H locs ls hP hS hv
  obtain ⟨hx, hb, -⟩ := C
  exact lv_astore hx hb hd hv hn rfl (fun ls hv => k (lvS_vv hs.hd _ hl) hs.tl H locs ls hP hS (lv_st1 (v := .inr (.inr q)) hv))
theorem g_lstore {n : Nat} {x : Int64} (C : Cx p s m args c cc D ad cA nL own) (hd : decode cc pc = .ok (.lstore n, 2)) (hn : n + 1 < nL) (k : Gd p l e R s m args below meth c nL Q D ad cA (pc + 2) (lvS2 lv n (.inr (.inl x))) st σ) : Gd p l e R s m args below meth c nL Q D ad cA pc lv (.inr (.inl x) :: st) σ := by
  intro hl hs H locs ls hP hS hv
  obtain ⟨hx, hb, -⟩ := C
  exact lv_lstore hx hb hd hv hn rfl (fun ls hv => k (lvS_vv hs.hd _ (lvS_vv (v := unset) (Or.inl ⟨rfl, rfl⟩) _ hl)) hs.tl H locs ls hP hS (lv_st2 (v := .inr (.inl x)) hv))
theorem g_iinc {n : Nat} {j : Int} {x : Int32} (C : Cx p s m args c cc D ad cA nL own) (hd : decode cc pc = .ok (.iinc n j, 3)) (hn : n < nL) (hg : lvG lv n = .inl x) (k : Gd p l e R s m args below meth c nL Q D ad cA (pc + 3) (lvS lv n (.inl (x + Int32.ofInt j))) st σ) : Gd p l e R s m args below meth c nL Q D ad cA pc lv st σ := by
  intro hl hs H locs ls hP hS hv
  obtain ⟨hx, hb, -⟩ := C
  have hu : isU (lvG lv n) = false := by rw [hg]; rfl
  have h1 : (n, Value.int x) ∈ lvc ad 0 lv := (lvc_mem lv 0 _).mpr ⟨n, .inl x, by rw [lvG_at lv n hu, hg], rfl, by simp [cv]⟩
  obtain ⟨kk, hkk⟩ := List.getElem?_of_mem h1
  exact lv_iinc (k := kk) hx hb hd hv hkk rfl hn rfl (fun ls hv => k (lvS_vv (v := .inl (x + Int32.ofInt j)) trivial _ hl) hs H locs ls hP hS (lv_st1 (v := .inl (x + Int32.ofInt j)) hv))
end SND
