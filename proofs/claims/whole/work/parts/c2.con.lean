/-! cells are made: the world in which constructors run -/
def AN (N0 : Nat) : Nat → Prop := fun q => N0 ≤ q
/-- texts, statics, links to nest mates, array classes over ours: what stands beside the cells -/
def SWc (N0 : Nat) (adK : Nat → Nat) (U : State) (H : Heap) : Prop := ∃ adV : Nat → Nat, vk_S 2 lenS bytS adK adV (AN N0) U H ∧ (vk_R RX8 26 KW0 (adK 0) U ∧ vk_R RX12 187 KW1 (adK 1) U) ∧ va_Z "java/lang/String" "COMPACT_STRINGS" "Z" (.int 1) (AN N0) U H ∧ va_Zq "jdk/internal/util/Preconditions" "SIOOBE_FORMATTER" "Ljava/util/function/BiFunction;" (AN N0) U H ∧ (∀ q ∈ NWL, va_Nw (.methodLinkNest q.1 q.2.1 q.2.2 "SilentTurn") U) ∧ va_AO RX10 U ∧ va_AO RX3 U ∧ va_AO RX1 U
theorem SWc.kept {N0 : Nat} {adK : Nat → Nat} {U : State} {H H1 : Heap} (h : SWc N0 adK U H) (hq : ∀ a : Nat, a < H.size → ¬ AN N0 a → H1[a]? = H[a]?) : SWc N0 adK U H1 := by
  obtain ⟨adV, h1, h2, h3, h4, h5, h6⟩ := h
  exact ⟨adV, h1.kept hq, h2, h3.kept hq, h4.kept hq, h5, h6⟩
theorem SWc.warm {N0 : Nat} {adK : Nat → Nat} {s U : State} {H : Heap} (hW : s.WarmedH U.vm) (h : SWc N0 adK s H) : SWc N0 adK U H := by
  obtain ⟨adV, h1, h2, h3, h4, h5, h6, h7, h8⟩ := h
  exact ⟨adV, h1.moved hW.alike, ⟨h2.1.warm hW, h2.2.warm hW⟩, h3.moved hW.alike, h4.moved hW.alike, fun q hq => (h5 q hq).warmM hW, h6.moved hW.alike, h7.moved hW.alike, h8.moved hW.alike⟩
theorem SWc.same {N0 : Nat} {adK : Nat → Nat} {u U : State} {H : Heap} (hv : U.vm = u.vm) (h : SWc N0 adK u H) : SWc N0 adK U H := by
  obtain ⟨adV, h1, h2, h3, h4, h5, h6, h7, h8⟩ := h
  have ha : u.vm.Alike U.vm := by rw [hv]; exact Vm.Alike.refl _
  exact ⟨adV, h1.moved ha, ⟨h2.1.same hv, h2.2.same hv⟩, h3.moved ha, h4.moved ha, fun q hq => (h5 q hq).same rfl hv.symm, h6.moved ha, h7.moved ha, h8.moved ha⟩
def PreC (D : va_G) (cA : Nat → ClassId) (N0 : Nat) (adK : Nat → Nat) (ws : va_W) (U : State) : Prop := N0 ≤ U.heap.size ∧ va_P D clA ws U.heap ∧ va_K D clA (tysA cA) U ∧ va_D (AN N0) ws ∧ SWc N0 adK U U.heap
theorem PreC_blind {D : va_G} {cA : Nat → ClassId} {N0 : Nat} {adK : Nat → Nat} {ws : va_W} {as : List Value} : FrameBlind (va_Pc as (PreC D cA N0 adK ws)) := by
  intro a U g mk h
  obtain ⟨h1, h2, h3, h4, h5, h6⟩ := h
  exact ⟨h1, h2, h3, va_K.moved (u := U) (U := U.calling g mk a) (Vm.Alike.refl U.vm) h4, h5, SWc.same (u := U) rfl h6⟩
/-- what a constructor says: its cell and those that it made are as 'Y' has them, at places 'a' -/
def PostC (D : va_G) (N0 : Nat) (X : va_W) (Y : (Nat → Nat) → va_W) (h0 : Nat) : Array Value → State → Outcome → State → Prop := va_Qv (fun a : Nat → Nat => a 0 = h0) (fun a t => va_P D clA (X ++ Y a) t.heap ∧ va_D (AN N0) (X ++ Y a)) (AN N0)
def Cc (p : Program) (s : State) (m : MethodId) (args : Array Value) (c : Code) (cc : ByteArray) (D : va_G) (cA : Nat → ClassId) (N0 : Nat) (adK : Nat → Nat) (nL : Nat) (own : String) : Prop :=
  p.tables.exec = Jvm.exec ∧ c.code = cc ∧ s.vm.findClass own = some m.cls ∧ c.maxLocals = nL ∧ (∀ w ∈ Tg, w.before args s = true) ∧ va_K D clA (tysA cA) s ∧ N0 ≤ s.heap.size ∧ SWc N0 adK s s.heap
def Cn (p : Program) (l : Launch) (e : Env) (R : Room) (s : State) (m : MethodId) (args : Array Value) (below : List Frame) (meth : Method) (c : Code) (Q : State → Prop) (D : va_G) (N0 nL : Nat) (ws : va_W) (pc : Nat) (lv : List (Nat × Value)) (st : List Value) (cells slots : Nat) : Prop :=
  ∀ (H : Heap) (locs : List Loc) (ls : Array Slot), lv_has ls nL lv → va_P D clA ws H → va_D (AN N0) ws → va_S (AN N0) s.heap H locs → W p l e R s m args below meth c H locs cells slots Q (F0 m pc ls st)
theorem apx_at {α : Type} (X Y : List α) (k : Nat) : (X ++ Y)[X.length + k]? = Y[k]? := by
  rw [List.getElem?_append_right (by omega), Nat.add_sub_cancel_left]
theorem apx_set {α : Type} (X Y : List α) (k : Nat) (z : α) : (X ++ Y).set (X.length + k) z = X ++ Y.set k z := by
  rw [List.set_append_right _ _ (by omega), Nat.add_sub_cancel_left]
section CON
variable {p : Program} {l : Launch} {e : Env} {R : Room} {s : State} {m : MethodId} {args : Array Value} {below : List Frame} {meth : Method} {c : Code} {Q : State → Prop} {cc : ByteArray} {D : va_G} {cA : Nat → ClassId} {N0 nL pc cells slots : Nat} {adK : Nat → Nat} {own : String} {ws X Y : va_W} {lv : List (Nat × Value)} {st : List Value}
theorem n_aload {k : Fin 4} {x : Nat} (C : Cc p s m args c cc D cA N0 adK nL own) (hd : decode cc pc = .ok (.aload_n k, 1)) (i : Nat) (hi : lv[i]? = some ((k : Nat), .ref x)) (kk : Cn p l e R s m args below meth c Q D N0 nL ws (pc + 1) lv (.ref x :: st) cells slots) : Cn p l e R s m args below meth c Q D N0 nL ws pc lv st cells slots := fun H locs ls hl hP hD hS => lv_aload_n C.1 C.2.1 hd rfl (lv_at hl i hi) (kk H locs ls hl hP hD hS)
theorem n_iload {k : Fin 4} {x : Int32} (C : Cc p s m args c cc D cA N0 adK nL own) (hd : decode cc pc = .ok (.iload_n k, 1)) (i : Nat) (hi : lv[i]? = some ((k : Nat), .int x)) (kk : Cn p l e R s m args below meth c Q D N0 nL ws (pc + 1) lv (.int x :: st) cells slots) : Cn p l e R s m args below meth c Q D N0 nL ws pc lv st cells slots := fun H locs ls hl hP hD hS => lv_iload_n C.1 C.2.1 hd rfl (lv_at hl i hi) (kk H locs ls hl hP hD hS)
theorem n_iconst {n : Int} {v : Int32} (C : Cc p s m args c cc D cA N0 adK nL own) (hd : decode cc pc = .ok (.iconst n, 1)) (hv : Int32.ofInt n = v) (kk : Cn p l e R s m args below meth c Q D N0 nL ws (pc + 1) lv (.int v :: st) cells slots) : Cn p l e R s m args below meth c Q D N0 nL ws pc lv st cells slots := fun H locs ls hl hP hD hS => lv_iconst C.1 C.2.1 hd hv (kk H locs ls hl hP hD hS)
theorem n_bipush {n : Int} {v : Int32} (C : Cc p s m args c cc D cA N0 adK nL own) (hd : decode cc pc = .ok (.bipush n, 2)) (hv : (Int8.ofInt n).toInt32 = v) (kk : Cn p l e R s m args below meth c Q D N0 nL ws (pc + 2) lv (.int v :: st) cells slots) : Cn p l e R s m args below meth c Q D N0 nL ws pc lv st cells slots := fun H locs ls hl hP hD hS => lv_bipush C.1 C.2.1 hd hv (kk H locs ls hl hP hD hS)
theorem n_sipush {n : Int} {v : Int32} (C : Cc p s m args c cc D cA N0 adK nL own) (hd : decode cc pc = .ok (.sipush n, 3)) (hv : (Int16.ofInt n).toInt32 = v) (kk : Cn p l e R s m args below meth c Q D N0 nL ws (pc + 3) lv (.int v :: st) cells slots) : Cn p l e R s m args below meth c Q D N0 nL ws pc lv st cells slots := fun H locs ls hl hP hD hS => lv_sipush C.1 C.2.1 hd hv (kk H locs ls hl hP hD hS)
theorem n_lconst {n : Fin 2} {v : Int64} (C : Cc p s m args c cc D cA N0 adK nL own) (hd : decode cc pc = .ok (.lconst n, 1)) (hv : Int64.ofNat (n : Nat) = v) (kk : Cn p l e R s m args below meth c Q D N0 nL ws (pc + 1) lv (.long v :: st) cells slots) : Cn p l e R s m args below meth c Q D N0 nL ws pc lv st cells slots := fun H locs ls hl hP hD hS => lv_lconst C.1 C.2.1 hd hv (kk H locs ls hl hP hD hS)
theorem n_dup {va : Value} (C : Cc p s m args c cc D cA N0 adK nL own) (hd : decode cc pc = .ok (.dup, 1)) (hva : va.category = 1) (kk : Cn p l e R s m args below meth c Q D N0 nL ws (pc + 1) lv (va :: va :: st) cells slots) : Cn p l e R s m args below meth c Q D N0 nL ws pc lv (va :: st) cells slots := fun H locs ls hl hP hD hS => lv_dup C.1 C.2.1 hd hva (kk H locs ls hl hP hD hS)
theorem n_istore {k : Fin 4} {x : Int32} {lv' : List (Nat × Value)} (C : Cc p s m args c cc D cA N0 adK nL own) (hd : decode cc pc = .ok (.istore_n k, 1)) (hn : (k : Nat) < nL) (hl' : ((k : Nat), Value.int x) :: lv.filter (fun q => !(q.1 == (k : Nat)) && !(q.1 + 1 == (k : Nat) && q.2.category == 2)) = lv') (kk : Cn p l e R s m args below meth c Q D N0 nL ws (pc + 1) lv' st cells slots) : Cn p l e R s m args below meth c Q D N0 nL ws pc lv (.int x :: st) cells slots := fun H locs ls hl hP hD hS => lv_istore_n C.1 C.2.1 hd rfl hl hn hl' (fun ls' hl2 => kk H locs ls' hl2 hP hD hS)
theorem n_iinc {i k : Nat} {n : Int} {x v : Int32} {lv' : List (Nat × Value)} (C : Cc p s m args c cc D cA N0 adK nL own) (hd : decode cc pc = .ok (.iinc i n, 3)) (hk : lv[k]? = some (i, .int x)) (hv : x + Int32.ofInt n = v) (hn : i < nL) (hl' : (i, Value.int v) :: lv.filter (fun q => !(q.1 == i) && !(q.1 + 1 == i && q.2.category == 2)) = lv') (kk : Cn p l e R s m args below meth c Q D N0 nL ws (pc + 3) lv' st cells slots) : Cn p l e R s m args below meth c Q D N0 nL ws pc lv st cells slots := fun H locs ls hl hP hD hS => lv_iinc C.1 C.2.1 hd hl hk hv hn hl' (fun ls' hl2 => kk H locs ls' hl2 hP hD hS)
theorem n_goto {off : Int} {tgt : Nat} (C : Cc p s m args c cc D cA N0 adK nL own) (hd : decode cc pc = .ok (.goto off, 3)) (ht : (pc : Int) + off = (tgt : Int)) (kk : Cn p l e R s m args below meth c Q D N0 nL ws tgt lv st cells slots) : Cn p l e R s m args below meth c Q D N0 nL ws pc lv st cells slots := fun H locs ls hl hP hD hS => lv_goto C.1 C.2.1 hd ht (kk H locs ls hl hP hD hS)
theorem n_icmpge {x y : Int32} {off : Int} {tgt : Nat} (C : Cc p s m args c cc D cA N0 adK nL own) (hd : decode cc pc = .ok (.if_icmp .ge off, 3)) (ht : (pc : Int) + off = (tgt : Int)) (kt : y ≤ x → Cn p l e R s m args below meth c Q D N0 nL ws tgt lv st cells slots) (kf : ¬ y ≤ x → Cn p l e R s m args below meth c Q D N0 nL ws (pc + 3) lv st cells slots) : Cn p l e R s m args below meth c Q D N0 nL ws pc lv (.int y :: .int x :: st) cells slots := fun H locs ls hl hP hD hS => lv_icmp_ge C.1 C.2.1 hd ht (fun h => kt h H locs ls hl hP hD hS) (fun h => kf h H locs ls hl hP hD hS)
theorem n_obj {idx a : Nat} (C : Cc p s m args c cc D cA N0 adK nL own) (hlink : Cond.methodLink own idx Lib.objectInit ∈ Tg) (ho : Cond.instanceMethod Lib.objectInit ∈ Tg ∧ Cond.code Lib.objectInit ⟨#[0xb1]⟩ 1 none ∈ Tg) (hd : decode cc pc = .ok (.invokespecial idx, 3)) (hf : 1 ≤ R.frames) (hlo : 12 ≤ R.locals) (kk : Cn p l e R s m args below meth c Q D N0 nL ws (pc + 3) lv [] cells slots) : Cn p l e R s m args below meth c Q D N0 nL ws pc lv [.ref a] cells slots := fun H locs ls hl hP hD hS => W.objInit C.1 C.2.1 C.2.2.1 (C.2.2.2.2.1 _ hlink) (C.2.2.2.2.1 _ ho.1) (C.2.2.2.2.1 _ ho.2) (g := F0 m pc ls [.ref a]) rfl (hl.1.trans C.2.2.2.1.symm) rfl hd hf (by show 2 * 0 + 0 + 12 ≤ _; omega) (kk H locs ls hl hP hD hS)
theorem n_new {ci idx : Nat} {fs : List Value} (C : Cc p s m args c cc D cA N0 adK nL own) (hc : ci < 13) (hcl : Cond.classLink own idx (RN ci) ∈ Tg) (hin : Cond.instantiable (RN ci) (fkl ci).length ∈ Tg) (hini : Cond.initialized (RN ci) ∈ Tg) (hfs : ∀ j, j < (fkl ci).length → defaultValue (tyTT ci j) = vp_V fs j) (h1 : cells + 1 ≤ R.cells) (h2 : slots + (fkl ci).length ≤ R.slots) (hd : decode cc pc = .ok (.new idx, 3)) (kk : ∀ q : Nat, Cn p l e R s m args below meth c Q D N0 nL (X ++ (Y ++ [(q, .inr (ci, fs))])) (pc + 3) lv (.ref q :: st) (cells + 1) (slots + (fkl ci).length)) : Cn p l e R s m args below meth c Q D N0 nL (X ++ Y) pc lv st cells slots := by
  intro H locs ls hl hP hD hS
  obtain ⟨hx, hb, hown, hml, hts, hK, hN, hW⟩ := C
  refine va_new hx hb hts (iTg hc) (tyTT ci) (yTT ci hc) hown (hts _ hcl) (hts _ hin) (hts _ hini) hK hP hD hS (fun q h => Nat.le_trans hN h) (clA_at ci hc) hfs h1 h2 hd (fun q H1 hP1 hD1 hS1 => ?_)
  rw [List.append_assoc] at hP1 hD1
  exact kk q H1 locs ls hl hP1 hD1 hS1
theorem n_newa {atype : ArrayType} {ty : FieldType} {n : Int32} {N' tk : Nat} {a0 : vp_A} {cI : ClassId} (C : Cc p s m args c cc D cA N0 adK nL own) (harr : Cond.arrayClass (newarray.typeOf atype) ∈ Tg) (hty : newarray.typeOf atype = ty) (htk : (tysA cA)[tk]? = some (cI, ty)) (hra : ∀ c', va_RA s c' ty → s.vm.findClass ("[" ++ ty.toString) = some c') (ha : ∀ c' : ClassId, vp_cell c' a0 = arrV c' N' (fun _ => defaultValue ty)) (hn : ¬ n < 0) (hN : n.toNatClampNeg = N') (hby : N' * componentBytes ty ≤ 536870912) (h1 : cells + 1 ≤ R.cells) (h2 : slots + N' ≤ R.slots) (hd : decode cc pc = .ok (.newarray atype, 2)) (kk : ∀ q : Nat, Cn p l e R s m args below meth c Q D N0 nL (X ++ (Y ++ [(q, .inl (cI, a0))])) (pc + 2) lv (.ref q :: st) (cells + 1) (slots + N')) : Cn p l e R s m args below meth c Q D N0 nL (X ++ Y) pc lv (.int n :: st) cells slots := by
  intro H locs ls hl hP hD hS
  obtain ⟨hx, hb, hown, hml, hts, hK, hN0, hW⟩ := C
  refine va_newa hx hb (hts _ harr) hty hK hP hD hS (fun q h => Nat.le_trans hN0 h) ha hn hN hby h1 h2 hd (fun q c1 H1 hK1 hP1 hD1 hS1 => ?_)
  have e1 := hra _ (hK1.2 ((tysA cA).length + 0) (c1, ty) (by rw [apx_at]; rfl)).2
  have e2 := hra _ (hK.2 tk _ htk).2
  have e3 : c1 = cI := Option.some.inj (e1.symm.trans e2)
  subst e3
  rw [List.append_assoc] at hP1 hD1
  exact kk q H1 locs ls hl hP1 hD1 hS1
theorem n_newq {C0 : String} {n : Int32} {N' tk idx : Nat} {cI : ClassId} (C : Cc p s m args c cc D cA N0 adK nL own) (hcl : Cond.classLink own idx C0 ∈ Tg) (hao : va_AO C0 s) (htk : (tysA cA)[tk]? = some (cI, .object C0)) (hn : ¬ n < 0) (hN : n.toNatClampNeg = N') (hby : N' * 4 ≤ 536870912) (h1 : cells + 1 ≤ R.cells) (h2 : slots + N' ≤ R.slots) (hd : decode cc pc = .ok (.anewarray idx, 3)) (kk : ∀ q : Nat, Cn p l e R s m args below meth c Q D N0 nL (X ++ (Y ++ [(q, .inl (cI, N', .inr (.inr (.inr (.inr (fun _ => none))))))])) (pc + 3) lv (.ref q :: st) (cells + 1) (slots + N')) : Cn p l e R s m args below meth c Q D N0 nL (X ++ Y) pc lv (.int n :: st) cells slots := by
  intro H locs ls hl hP hD hS
  obtain ⟨hx, hb, hown, hml, hts, hK, hN0, hW⟩ := C
  refine va_newq hx hb hown (hts _ hcl) hao hK hP hD hS (fun q h => Nat.le_trans hN0 h) hn hN hby h1 h2 hd (fun q c1 H1 hK1 hP1 hD1 hS1 => ?_)
  obtain ⟨kA, comp, -, -, -, e1⟩ := (hK1.2 ((tysA cA).length + 0) (c1, .object C0) (by rw [apx_at]; rfl)).2
  obtain ⟨kA2, comp2, -, -, -, e2⟩ := (hK.2 tk _ htk).2
  have e3 : c1 = cI := Option.some.inj (e1.symm.trans e2)
  subst e3
  rw [List.append_assoc] at hP1 hD1
  exact kk q H1 locs ls hl hP1 hD1 hS1
theorem n_putF {ci k f idx a : Nat} {fs : List Value} {v : Value} (C : Cc p s m args c cc D cA N0 adK nL own) (hc : ci < 13) (he : Y[k]? = some (a, .inr (ci, fs))) (hf : f < (fkl ci).length) (hln : Cond.fieldLink own idx (TT ci f).1 (TT ci f).2.1 (TT ci f).2.2.1 ∈ Tg) (hfin : (TT ci f).2.2.2 = true) (hnm : meth.name = "<init>") (hown2 : (TT ci f).1 = own) (hn : narrow (tyTT ci f) v = v) (hfit : fits (tyTT ci f) v = true) (hlen : f < fs.length) (hd : decode cc pc = .ok (.putfield idx, 3)) (kk : Cn p l e R s m args below meth c Q D N0 nL (X ++ Y.set k (a, .inr (ci, fs.set f v))) (pc + 3) lv st cells slots) : Cn p l e R s m args below meth c Q D N0 nL (X ++ Y) pc lv (v :: .ref a :: st) cells slots := by
  intro H locs ls hl hP hD hS
  obtain ⟨hx, hb, hown, hml, hts, hK, hN0, hW⟩ := C
  refine va_putF hx hb hts (iTg hc) (tyTT ci) (yTT ci hc) (nTT ci hc) hown hK hP hD hS (X.length + k) (by rw [apx_at]; exact he) (clA_at ci hc) f hf (hts _ hln) (fun x h => h) hfin hnm hown2 (yTT ci hc f hf) hn hfit hlen hd (fun H1 locs1 hP1 hD1 hS1 => ?_)
  rw [apx_set] at hP1 hD1
  exact kk H1 locs1 ls hl hP1 hD1 hS1
theorem n_put {ci k f idx a : Nat} {fs : List Value} {v : Value} (C : Cc p s m args c cc D cA N0 adK nL own) (hc : ci < 13) (he : Y[k]? = some (a, .inr (ci, fs))) (hf : f < (fkl ci).length) (hln : Cond.fieldLink own idx (TT ci f).1 (TT ci f).2.1 (TT ci f).2.2.1 ∈ Tg) (hfin : (TT ci f).2.2.2 = false) (hn : narrow (tyTT ci f) v = v) (hfit : fits (tyTT ci f) v = true) (hlen : f < fs.length) (hd : decode cc pc = .ok (.putfield idx, 3)) (kk : Cn p l e R s m args below meth c Q D N0 nL (X ++ Y.set k (a, .inr (ci, fs.set f v))) (pc + 3) lv st cells slots) : Cn p l e R s m args below meth c Q D N0 nL (X ++ Y) pc lv (v :: .ref a :: st) cells slots := by
  intro H locs ls hl hP hD hS
  obtain ⟨hx, hb, hown, hml, hts, hK, hN0, hW⟩ := C
  refine va_put hx hb hts (iTg hc) (tyTT ci) (yTT ci hc) (nTT ci hc) hown hK hP hD hS (X.length + k) (by rw [apx_at]; exact he) (clA_at ci hc) f hf (hts _ hln) (fun x h => h) hfin (yTT ci hc f hf) hn hfit hlen hd (fun H1 locs1 hP1 hD1 hS1 => ?_)
  rw [apx_set] at hP1 hD1
  exact kk H1 locs1 ls hl hP1 hD1 hS1
theorem n_get {ci k f idx a : Nat} {fs : List Value} {v : Value} (C : Cc p s m args c cc D cA N0 adK nL own) (hc : ci < 13) (he : Y[k]? = some (a, .inr (ci, fs))) (hf : f < (fkl ci).length) (hln : Cond.fieldLink own idx (TT ci f).1 (TT ci f).2.1 (TT ci f).2.2.1 ∈ Tg) (hv : fs[f]? = some v) (hd : decode cc pc = .ok (.getfield idx, 3)) (kk : Cn p l e R s m args below meth c Q D N0 nL (X ++ Y) (pc + 3) lv (v :: st) cells slots) : Cn p l e R s m args below meth c Q D N0 nL (X ++ Y) pc lv (.ref a :: st) cells slots := by
  intro H locs ls hl hP hD hS
  obtain ⟨hx, hb, hown, hml, hts, hK, hN0, hW⟩ := C
  exact va_get hx hb hts (iTg hc) hown hK hP (X.length + k) (by rw [apx_at]; exact he) (clA_at ci hc) f hf (hts _ hln) (fun x h => h) hv hd (kk H locs ls hl hP hD hS)
theorem n_iast {k tk a n : Nat} {cI : ClassId} {f : Nat → Int32} {i x : Int32} (C : Cc p s m args c cc D cA N0 adK nL own) (he : Y[k]? = some (a, .inl (cI, n, .inl f))) (htk : (tysA cA)[tk]? = some (cI, .int)) (hin : vp_in i n) (hd : decode cc pc = .ok (.iastore, 1)) (kk : Cn p l e R s m args below meth c Q D N0 nL (X ++ Y.set k (a, .inl (cI, n, .inl (upd f i.toNatClampNeg x)))) (pc + 1) lv st cells slots) : Cn p l e R s m args below meth c Q D N0 nL (X ++ Y) pc lv (.int x :: .int i :: .ref a :: st) cells slots := by
  intro H locs ls hl hP hD hS
  obtain ⟨hx, hb, hown, hml, hts, hK, hN0, hW⟩ := C
  refine va_iast hx hb hK hP hD hS (X.length + k) tk (by rw [apx_at]; exact he) htk hin hd (fun H1 locs1 hP1 hD1 hS1 => ?_)
  rw [apx_set] at hP1 hD1
  exact kk H1 locs1 ls hl hP1 hD1 hS1
theorem n_aast {k k2 tk ci a n v : Nat} {cI : ClassId} {f : Nat → Option Nat} {vs : List Value} {i : Int32} (C : Cc p s m args c cc D cA N0 adK nL own) (hc : ci < 13) (he : Y[k]? = some (a, .inl (cI, n, .inr (.inr (.inr (.inr f)))))) (htk : (tysA cA)[tk]? = some (cI, .object (RN ci))) (hv : Y[k2]? = some (v, .inr (ci, vs))) (hin : vp_in i n) (hd : decode cc pc = .ok (.aastore, 1)) (kk : Cn p l e R s m args below meth c Q D N0 nL (X ++ Y.set k (a, .inl (cI, n, .inr (.inr (.inr (.inr (va_up f i.toNatClampNeg (some v)))))))) (pc + 1) lv st cells slots) : Cn p l e R s m args below meth c Q D N0 nL (X ++ Y) pc lv (.ref v :: .int i :: .ref a :: st) cells slots := by
  intro H locs ls hl hP hD hS
  obtain ⟨hx, hb, hown, hml, hts, hK, hN0, hW⟩ := C
  refine va_astq hx hb hK hP hD hS (X.length + k) tk (X.length + k2) ci (by rw [apx_at]; exact he) htk (by rw [apx_at]; exact hv) (clA_at ci hc) hin hd (fun H1 locs1 hP1 hD1 hS1 => ?_)
  rw [apx_set] at hP1 hD1
  exact kk H1 locs1 ls hl hP1 hD1 hS1
/-- the end of a constructor -/
theorem n_ret {h0 : Nat} {Z : (Nat → Nat) → va_W} (a : Nat → Nat) (C : Cc p s m args c cc D cA N0 adK nL own) (hr : meth.sig.returnType = none) (hlk : meth.locks = false) (h0a : a 0 = h0) (hY : Y = Z a) (hd : decode cc pc = .ok (.return_, 1)) : Cn p l e R s m args below meth c (MQ below (PostC D N0 X Z h0) args s cells slots (AN N0)) D N0 nL (X ++ Y) pc lv [] cells slots := by
  intro H locs ls hl hP hD hS
  subst hY
  exact W.vret C.1 C.2.1 hr (fun t ht hW => ⟨⟨a, rfl, h0a, by rw [ht]; exact hP, hD⟩, hS.F ht⟩) hS.2.2 hd hlk
/-- a constructor is called -/
theorem n_init {b idx mx n mc ms fr lo : Nat} {y : MethodName} {cb : ByteArray} {As : List Value} {cl : va_E} {Z : (Nat → Nat) → va_W} (C : Cc p s m args c cc D cA N0 adK nL own)
    (hM : Met l y (wS y cb mx none) { frames := fr, cells := mc, slots := ms, locals := lo } (va_Pc (.ref b :: As) (PreC D cA N0 adK ((X ++ Y) ++ [(b, cl)]))) (PostC D N0 (X ++ Y) Z b) mc ms (AN N0)) (h1 : Cond.code y cb mx none ∈ Tg) (h2 : Cond.initialized y.cls ∈ Tg) (h3 : Cond.methodLink own idx y ∈ Tg ∨ (own, idx, y) ∈ NWL) (h4 : Cond.instanceMethod y ∈ Tg) (hyn : y.name = "<init>")
    (hdd : y.cls ≠ "java/lang/invoke/MethodHandle" ∧ y.cls ≠ "java/lang/invoke/VarHandle" ∧ (parseMethodDescriptor y.desc).map (fun d => d.parameters.length) = some n) (hAs : As.length = n) (hR : fr + 1 ≤ R.frames ∧ 8 + (mx + 11) + lo ≤ R.locals) (hst : (st.map fun v => v.category).sum ≤ 8) (hd : decode cc pc = .ok (.invokespecial idx, 3)) (hcs : cells + mc ≤ R.cells ∧ slots + ms ≤ R.slots)
    (kk : ∀ a : Nat → Nat, a 0 = b → Cn p l e R s m args below meth c Q D N0 nL (X ++ (Y ++ Z a)) (pc + 3) lv st (cells + mc) (slots + ms)) : Cn p l e R s m args below meth c Q D N0 nL (X ++ (Y ++ [(b, cl)])) pc lv (As.reverse ++ .ref b :: st) cells slots := by
  intro H locs ls hl hP hD hS
  obtain ⟨hx, hb, hown, hml, hts, hK, hN0, hW⟩ := C
  rw [← List.append_assoc] at hP hD
  have hpre : ∀ U : State, U.heap = H → s.WarmedH U.vm → va_Pc (.ref b :: As) (PreC D cA N0 adK ((X ++ Y) ++ [(b, cl)])) (Value.ref b :: As).toArray U := fun U hU hw => ⟨rfl, by rw [hU]; exact Nat.le_trans hN0 hS.1, by rw [hU]; exact hP, va_K.moved hw.alike hK, hD, by rw [hU]; exact SWc.warm hw (hW.kept hS.2.1)⟩
  have hrun : va_Run p l e R s m args below meth c H locs cells slots mc ms (F0 m pc ls (As.reverse ++ .ref b :: st)) st (PostC D N0 (X ++ Y) Z b (Value.ref b :: As).toArray) (AN N0) := by
    rcases h3 with h3 | h3
    · exact va_runI (Ts := Tg) (nL := nL) ⟨hx, hb, hml, hown, hts⟩ hM ⟨callB_of n hts (goodT (wS_in h1)) rfl rfl rfl (hts _ h2) (hts _ h3) hdd hR, hyn, hts _ h4⟩ ⟨PreC_blind, hpre⟩ rfl hAs hl.1 rfl (lv_room hst) hd hcs
    · obtain ⟨adV, -, -, -, -, w5, -⟩ := id hW
      exact va_runIN (Ts := Tg) (nL := nL) (host := "SilentTurn") ⟨hx, hb, hml, hown, hts⟩ hM ⟨va_cnB n hts (goodT (wS_in h1)) rfl rfl rfl (w5 _ h3) (hts _ h2) hdd hR, hyn, hts _ h4⟩ ⟨PreC_blind, hpre⟩ rfl hAs hl.1 rfl (lv_room hst) hd hcs
  refine va_callv hrun hS (fun q _ h => h) (fun q h => h) (fun a t H1 locs1 ht hvm hp hB hz hk hS1 => ?_)
  obtain ⟨hP1, hD1⟩ := hB
  rw [ht, List.append_assoc] at hP1
  rw [List.append_assoc] at hD1
  exact kk a hp H1 locs1 ls hl hP1 hD1 hS1
end CON
/-- a constructor's contract out of its walk -/
theorem Met_con {l : Launch} {y : MethodName} {cb : ByteArray} {mx mc ms fr lo h0 N0 : Nat} {D : va_G} {cA : Nat → ClassId} {adK : Nat → Nat} {X : va_W} {cl : va_E} {As : List Value} {Z : (Nat → Nat) → va_W} (hy : plainName y.cls = true) (hyn : y.name = "<init>") (hmx : (lg_sl (.ref h0 :: As)).length ≤ mx)
    (body : ∀ (p : Program) (e : Env) (s : State) (m : MethodId) (args : Array Value) (below : List Frame) (meth : Method) (c : Code), Cc p s m args c cb D cA N0 adK mx y.cls → meth.sig.returnType = none → meth.locks = false → meth.name = "<init>" → Cn p l e { frames := fr, cells := mc, slots := ms, locals := lo } s m args below meth c (MQ below (PostC D N0 X Z h0) args s mc ms (AN N0)) D N0 mx (X ++ [(h0, cl)]) 0 (lv_args 0 (.ref h0 :: As)) [] 0 0) :
    Met l y (wS y cb mx none) { frames := fr, cells := mc, slots := ms, locals := lo } (va_Pc (.ref h0 :: As) (PreC D cA N0 adK (X ++ [(h0, cl)]))) (PostC D N0 X Z h0) mc ms (AN N0) := by
  refine Met.ofW (cc := cb) (maxL := mx) (ret := none) hy rfl ?_
  intro p e s m args below meth c s₁ B hml hv
  obtain ⟨rfl, hN, hP, hK, hD, hW⟩ := hv
  have hts : ∀ w ∈ Tg, w.before _ s = true := fun w hw => atoms_spec (ws := wS y cb mx none) B.pre w (List.mem_cons_of_mem _ hw)
  have hin : meth.name = "<init>" := (name_of_methodNamed B.named B.method).1.trans hyn
  have hl := lv_entry (.ref h0 :: As) (n := mx) hmx
  rw [lg_entry_eq]
  exact body p e s m _ below meth c ⟨B.exec, B.bytes, findClass_of_methodNamed B.named, hml, hts, hK, hN, hW⟩ B.returns B.notSynchronized hin s.heap [] _ hl hP hD va_S.rf
