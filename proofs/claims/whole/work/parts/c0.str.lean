/-! texts that are constants: length, charAt; they change nothing -/
def rmS (k : Nat) : Room := { frames := k, cells := 0, slots := 0, locals := 30 * k }
def nA : Nat → Prop := fun _ => False
def SpW (adK adV : Nat → Nat) (U : State) (H : Heap) : Prop := vk_S 2 lenS bytS adK adV nA U H ∧ va_Z "java/lang/String" "COMPACT_STRINGS" "Z" (.int 1) nA U H ∧ va_Zq "jdk/internal/util/Preconditions" "SIOOBE_FORMATTER" "Ljava/util/function/BiFunction;" nA U H
theorem SpW.moved {adK adV : Nat → Nat} {u U : State} {H : Heap} (hvm : u.vm.Alike U.vm) (h : SpW adK adV u H) : SpW adK adV U H := ⟨h.1.moved hvm, h.2.1.moved hvm, h.2.2.moved hvm⟩
theorem SpW.on {adK adV : Nat → Nat} {u U : State} {H : Heap} (h : SpW adK adV u H) (hU : U.heap = H) (hW : u.WarmedH U.vm) : SpW adK adV U U.heap := by
  rw [hU]
  exact h.moved hW.alike
/-- an int comes back, and nothing else -/
def Qs (x : Int32) : Array Value → State → Outcome → State → Prop := fun _ st oc t => oc = .returned (some (.int x)) ∧ t.heap = st.heap
def Qs0 : Array Value → State → Outcome → State → Prop := fun _ st oc t => oc = .returned none ∧ t.heap = st.heap
def wS (y : MethodName) (cc : ByteArray) (n : Nat) (ret : Option FieldType) : List Cond := Cond.code y cc n ret :: Tg
def yS_len : MethodName := ⟨"java/lang/String", "length", "()I"⟩
def yS_cod : MethodName := ⟨"java/lang/String", "coder", "()B"⟩
def yS_cha : MethodName := ⟨"java/lang/String", "charAt", "(I)C"⟩
def yS_lat : MethodName := ⟨"java/lang/String", "isLatin1", "()Z"⟩
def yS_chk : MethodName := ⟨"java/lang/String", "checkIndex", "(II)V"⟩
def yL_cha : MethodName := ⟨"java/lang/StringLatin1", "charAt", "([BI)C"⟩
def yP_chk : MethodName := ⟨"jdk/internal/util/Preconditions", "checkIndex", "(IILjava/util/function/BiFunction;)I"⟩
theorem tS1 : Cond.code yS_len prog_17_method_54_code 1 (some .int) ∈ Tg ∧ Cond.code yS_cod prog_17_method_152_code 1 (some .byte) ∈ Tg ∧ Cond.code yS_cha prog_17_method_56_code 2 (some .char) ∈ Tg ∧ Cond.code yS_lat prog_17_method_154_code 1 (some .boolean) ∈ Tg ∧ Cond.code yS_chk prog_17_method_155_code 2 none ∈ Tg ∧ Cond.code yL_cha prog_18_method_2_code 2 (some .char) ∈ Tg ∧ Cond.code yP_chk prog_22_method_11_code 3 (some .int) ∈ Tg := ⟨inT (in_t1 (List.mem_of_getElem? (i := 42) rfl)) rfl, inT (in_t1 (List.mem_of_getElem? (i := 46) rfl)) rfl, inT (in_t1 (List.mem_of_getElem? (i := 52) rfl)) rfl, inT (in_t1 (List.mem_of_getElem? (i := 56) rfl)) rfl, inT (in_t1 (List.mem_of_getElem? (i := 62) rfl)) rfl, inT (in_t1 (List.mem_of_getElem? (i := 59) rfl)) rfl, inT (in_t1 (List.mem_of_getElem? (i := 67) rfl)) rfl⟩
theorem tS2 : Cond.initialized "java/lang/String" ∈ Tg ∧ Cond.initialized "java/lang/StringLatin1" ∈ Tg ∧ Cond.initialized "jdk/internal/util/Preconditions" ∈ Tg := ⟨inT (in_t1 (List.mem_of_getElem? (i := 3) rfl)) rfl, inT (in_t1 (List.mem_of_getElem? (i := 4) rfl)) rfl, inT (in_t1 (List.mem_of_getElem? (i := 5) rfl)) rfl⟩
theorem tS3 : Cond.fieldLink "java/lang/String" 38 "java/lang/String" "COMPACT_STRINGS" "Z" ∈ Tg ∧ Cond.fieldLink "java/lang/String" 1053 "jdk/internal/util/Preconditions" "SIOOBE_FORMATTER" "Ljava/util/function/BiFunction;" ∈ Tg ∧ Cond.fieldLink "java/lang/String" 9 "java/lang/String" "value" "[B" ∈ Tg ∧ Cond.fieldLink "java/lang/String" 15 "java/lang/String" "coder" "B" ∈ Tg := ⟨inT (in_t1 (List.mem_of_getElem? (i := 47) rfl)) rfl, inT (in_t1 (List.mem_of_getElem? (i := 63) rfl)) rfl, inT (in_t9 (List.mem_of_getElem? (i := 184) rfl)) rfl, inT (in_t9 (List.mem_of_getElem? (i := 185) rfl)) rfl⟩
theorem tS4 : Cond.methodLink "java/lang/String" 335 yS_cod ∈ Tg ∧ Cond.methodLink "java/lang/String" 492 yS_lat ∈ Tg ∧ Cond.methodLink "java/lang/String" 495 yL_cha ∈ Tg ∧ Cond.methodLink "java/lang/StringLatin1" 9 yS_chk ∈ Tg ∧ Cond.methodLink "java/lang/String" 1059 yP_chk ∈ Tg ∧ Cond.methodLink RX8 28 yS_len ∈ Tg ∧ Cond.methodLink RX8 34 yS_cha ∈ Tg ∧ Cond.methodLink RX12 154 yS_len ∈ Tg ∧ Cond.methodLink RX12 160 yS_cha ∈ Tg := ⟨inT (in_t1 (List.mem_of_getElem? (i := 43) rfl)) rfl, inT (in_t1 (List.mem_of_getElem? (i := 53) rfl)) rfl, inT (in_t1 (List.mem_of_getElem? (i := 57) rfl)) rfl, inT (in_t1 (List.mem_of_getElem? (i := 60) rfl)) rfl, inT (in_t1 (List.mem_of_getElem? (i := 65) rfl)) rfl, inT (in_t1 (List.mem_of_getElem? (i := 39) rfl)) rfl, inT (in_t1 (List.mem_of_getElem? (i := 49) rfl)) rfl, inT (in_t7 (List.mem_of_getElem? (i := 145) rfl)) rfl, inT (in_t7 (List.mem_of_getElem? (i := 146) rfl)) rfl⟩
theorem tS5 : Cond.instanceMethod yS_len ∈ Tg ∧ Cond.instanceMethod yS_cod ∈ Tg ∧ Cond.instanceMethod yS_cha ∈ Tg ∧ Cond.instanceMethod yS_lat ∈ Tg ∧ Cond.static yS_chk ∈ Tg ∧ Cond.static yL_cha ∈ Tg ∧ Cond.static yP_chk ∈ Tg := ⟨inT (in_t1 (List.mem_of_getElem? (i := 40) rfl)) rfl, inT (in_t1 (List.mem_of_getElem? (i := 44) rfl)) rfl, inT (in_t1 (List.mem_of_getElem? (i := 50) rfl)) rfl, inT (in_t1 (List.mem_of_getElem? (i := 54) rfl)) rfl, inT (in_t1 (List.mem_of_getElem? (i := 61) rfl)) rfl, inT (in_t1 (List.mem_of_getElem? (i := 58) rfl)) rfl, inT (in_t1 (List.mem_of_getElem? (i := 66) rfl)) rfl⟩
theorem tS6 : Cond.selects "java/lang/String" yS_len yS_len ∈ Tg ∧ Cond.selects "java/lang/String" yS_cod yS_cod ∈ Tg ∧ Cond.selects "java/lang/String" yS_cha yS_cha ∈ Tg ∧ Cond.selects "java/lang/String" yS_lat yS_lat ∈ Tg := ⟨inT (in_t1 (List.mem_of_getElem? (i := 41) rfl)) rfl, inT (in_t1 (List.mem_of_getElem? (i := 45) rfl)) rfl, inT (in_t1 (List.mem_of_getElem? (i := 51) rfl)) rfl, inT (in_t1 (List.mem_of_getElem? (i := 55) rfl)) rfl⟩
theorem wS_in {y : MethodName} {cc : ByteArray} {n : Nat} {ret : Option FieldType} (h : Cond.code y cc n ret ∈ Tg) : ∀ w ∈ wS y cc n ret, w ∈ Tg := fun w hw => (List.mem_cons.mp hw).elim (fun e => e ▸ h) id
theorem cbS {s : State} {args : Array Value} {own : String} {idx n mx k : Nat} {y : MethodName} {cc : ByteArray} {ret : Option FieldType} {R : Room} (hts : ∀ w ∈ Tg, w.before args s = true) (h1 : Cond.code y cc mx ret ∈ Tg) (h2 : Cond.initialized y.cls ∈ Tg) (h3 : Cond.methodLink own idx y ∈ Tg) (hd : y.cls ≠ "java/lang/invoke/MethodHandle" ∧ y.cls ≠ "java/lang/invoke/VarHandle" ∧ (parseMethodDescriptor y.desc).map (fun d => d.parameters.length) = some n) (hR : k + 1 ≤ R.frames ∧ 8 + (mx + 11) + 30 * k ≤ R.locals) : CallB R s args own idx y cc mx ret (wS y cc mx ret) (rmS k) 0 0 n := callB_of n hts (goodT (wS_in h1)) rfl rfl rfl (hts _ h2) (hts _ h3) hd hR
section PUR
variable {p : Program} {l : Launch} {e : Env} {R : Room} {s : State} {m : MethodId} {args : Array Value} {below : List Frame} {meth : Method} {c : Code} {H : Heap} {locs : List Loc} {cells slots pc : Nat} {Q : State → Prop} {ls : Array Slot} {st0 rest : List Value} {a : Array Value}
theorem va_callP {x : Int32} (hr : va_Run p l e R s m args below meth c H locs cells slots 0 0 (F0 m pc ls st0) rest (Qs x a) nA) (kk : W p l e R s m args below meth c H locs cells slots Q (F0 m (pc + 3) ls (.int x :: rest))) : W p l e R s m args below meth c H locs cells slots Q (F0 m pc ls st0) := by
  intro T hT X
  obtain ⟨v, st₀, t, T', L, h0, X', hL, e1, e2, ⟨hv, hh⟩, st⟩ := hr T hT X
  have hL0 : L = [] := by
    cases L with
    | nil => rfl
    | cons q r => exact (hL q List.mem_cons_self).elim
  subst hL0
  have hv : v = some (.int x) := Outcome.returned.inj hv
  subst hv
  rw [List.append_nil] at X'
  obtain ⟨t2, a1, b1⟩ := kk T' (by rw [e1, hh, h0]) X'
  exact ⟨t2, st t2 a1, b1⟩
theorem va_callP0 (hr : va_Run p l e R s m args below meth c H locs cells slots 0 0 (F0 m pc ls st0) rest (Qs0 a) nA) (kk : W p l e R s m args below meth c H locs cells slots Q (F0 m (pc + 3) ls rest)) : W p l e R s m args below meth c H locs cells slots Q (F0 m pc ls st0) := by
  intro T hT X
  obtain ⟨v, st₀, t, T', L, h0, X', hL, e1, e2, ⟨hv, hh⟩, st⟩ := hr T hT X
  have hL0 : L = [] := by
    cases L with
    | nil => rfl
    | cons q r => exact (hL q List.mem_cons_self).elim
  subst hL0
  have hv : v = none := Outcome.returned.inj hv
  subst hv
  rw [List.append_nil] at X'
  obtain ⟨t2, a1, b1⟩ := kk T' (by rw [e1, hh, h0]) X'
  exact ⟨t2, st t2 a1, b1⟩
end PUR
theorem SpW_blind {adK adV : Nat → Nat} {as : List Value} : FrameBlind (va_Pc as (fun U => SpW adK adV U U.heap)) := by
  intro a U g mk h
  exact ⟨h.1, SpW.moved (u := U) (U := U.calling g mk a) (Vm.Alike.refl U.vm) h.2⟩
theorem d_cod0 : decode prog_17_method_152_code 0 = .ok (.getstatic 38, 3) := by decide +kernel
theorem d_cod3 : decode prog_17_method_152_code 3 = .ok (.ifCond .eq 10, 3) := by decide +kernel
theorem d_cod6 : decode prog_17_method_152_code 6 = .ok (.aload_n 0, 1) := by decide +kernel
theorem d_cod7 : decode prog_17_method_152_code 7 = .ok (.getfield 15, 3) := by decide +kernel
theorem d_cod10 : decode prog_17_method_152_code 10 = .ok (.goto 4, 3) := by decide +kernel
theorem d_cod14 : decode prog_17_method_152_code 14 = .ok (.ireturn, 1) := by decide +kernel
theorem k_cod (l : Launch) (adK adV : Nat → Nat) {i : Nat} (hi : i < 2) : Met l yS_cod (wS yS_cod prog_17_method_152_code 1 (some .byte)) (rmS 1) (va_Pc [.ref (adK i)] (fun U => SpW adK adV U U.heap)) (Qs 0) 0 0 nA := by
  refine Met.ofW (cc := prog_17_method_152_code) (maxL := 1) (ret := some .byte) (by decide) rfl ?_
  intro p e s m args below meth c s₁ B hml hv
  obtain ⟨rfl, hSp⟩ := hv
  have hx := B.exec
  have hb := B.bytes
  have hr := B.returns
  have hts : ∀ w ∈ Tg, w.before _ s = true := fun w hw => atoms_spec (ws := wS yS_cod prog_17_method_152_code 1 (some .byte)) B.pre w (List.mem_cons_of_mem _ hw)
  have hown : s.vm.findClass "java/lang/String" = some m.cls := findClass_of_methodNamed B.named
  have hlocks := B.notSynchronized
  have hS : va_S nA s.heap s.heap [] := va_S.rf
  have hl := lv_entry ([.ref (adK i)]) (n := 1) (Nat.le_of_ble_eq_true rfl)
  rw [lg_entry_eq]
  generalize (lg_sl ([.ref (adK i)]) ++ List.replicate (1 - (lg_sl ([.ref (adK i)])).length) Slot.unset).toArray = ls at hl ⊢
  have hl : lv_has ls 1 [(0, .ref (adK i))] := hl
  refine va_gets hx hb hSp.2.1 hS hown (hts _ tS3.1) (fun _ h => h) d_cod0 ?_
  refine lv_if_eq (tgt := 13) hx hb d_cod3 (by decide) (fun c0 => absurd c0 (by decide)) (fun _ => ?_)
  refine lv_aload_n hx hb d_cod6 rfl (lv_at hl 0 rfl) ?_
  refine vk_getf hx hb (hSp.1.1 i hi).2.1 hS hown (hts _ tS3.2.2.2) (fun _ h => h) d_cod7 ?_
  refine lv_goto (tgt := 14) hx hb d_cod10 (by decide) ?_
  exact W.zret hx hb hr (by decide) (fun t ht _ => ⟨rfl, ht⟩) (fun q h => absurd h List.not_mem_nil) d_cod14
theorem d_lat0 : decode prog_17_method_154_code 0 = .ok (.getstatic 38, 3) := by decide +kernel
theorem d_lat3 : decode prog_17_method_154_code 3 = .ok (.ifCond .eq 14, 3) := by decide +kernel
theorem d_lat6 : decode prog_17_method_154_code 6 = .ok (.aload_n 0, 1) := by decide +kernel
theorem d_lat7 : decode prog_17_method_154_code 7 = .ok (.getfield 15, 3) := by decide +kernel
theorem d_lat10 : decode prog_17_method_154_code 10 = .ok (.ifCond .ne 7, 3) := by decide +kernel
theorem d_lat13 : decode prog_17_method_154_code 13 = .ok (.iconst 1, 1) := by decide +kernel
theorem d_lat14 : decode prog_17_method_154_code 14 = .ok (.goto 4, 3) := by decide +kernel
theorem d_lat18 : decode prog_17_method_154_code 18 = .ok (.ireturn, 1) := by decide +kernel
theorem k_lat (l : Launch) (adK adV : Nat → Nat) {i : Nat} (hi : i < 2) : Met l yS_lat (wS yS_lat prog_17_method_154_code 1 (some .boolean)) (rmS 1) (va_Pc [.ref (adK i)] (fun U => SpW adK adV U U.heap)) (Qs 1) 0 0 nA := by
  refine Met.ofW (cc := prog_17_method_154_code) (maxL := 1) (ret := some .boolean) (by decide) rfl ?_
  intro p e s m args below meth c s₁ B hml hv
  obtain ⟨rfl, hSp⟩ := hv
  have hx := B.exec
  have hb := B.bytes
  have hr := B.returns
  have hts : ∀ w ∈ Tg, w.before _ s = true := fun w hw => atoms_spec (ws := wS yS_lat prog_17_method_154_code 1 (some .boolean)) B.pre w (List.mem_cons_of_mem _ hw)
  have hown : s.vm.findClass "java/lang/String" = some m.cls := findClass_of_methodNamed B.named
  have hlocks := B.notSynchronized
  have hS : va_S nA s.heap s.heap [] := va_S.rf
  have hl := lv_entry ([.ref (adK i)]) (n := 1) (Nat.le_of_ble_eq_true rfl)
  rw [lg_entry_eq]
  generalize (lg_sl ([.ref (adK i)]) ++ List.replicate (1 - (lg_sl ([.ref (adK i)])).length) Slot.unset).toArray = ls at hl ⊢
  have hl : lv_has ls 1 [(0, .ref (adK i))] := hl
  refine va_gets hx hb hSp.2.1 hS hown (hts _ tS3.1) (fun _ h => h) d_lat0 ?_
  refine lv_if_eq (tgt := 17) hx hb d_lat3 (by decide) (fun c0 => absurd c0 (by decide)) (fun _ => ?_)
  refine lv_aload_n hx hb d_lat6 rfl (lv_at hl 0 rfl) ?_
  refine vk_getf hx hb (hSp.1.1 i hi).2.1 hS hown (hts _ tS3.2.2.2) (fun _ h => h) d_lat7 ?_
  refine lv_if_ne (tgt := 17) hx hb d_lat10 (by decide) (fun c0 => absurd rfl c0) (fun _ => ?_)
  refine lv_iconst (v := 1) hx hb d_lat13 (by decide) ?_
  refine lv_goto (tgt := 18) hx hb d_lat14 (by decide) ?_
  exact W.zret hx hb hr (by decide) (fun t ht _ => ⟨rfl, ht⟩) (fun q h => absurd h List.not_mem_nil) d_lat18
theorem d_len0 : decode prog_17_method_54_code 0 = .ok (.aload_n 0, 1) := by decide +kernel
theorem d_len1 : decode prog_17_method_54_code 1 = .ok (.getfield 9, 3) := by decide +kernel
theorem d_len4 : decode prog_17_method_54_code 4 = .ok (.arraylength, 1) := by decide +kernel
theorem d_len5 : decode prog_17_method_54_code 5 = .ok (.aload_n 0, 1) := by decide +kernel
theorem d_len6 : decode prog_17_method_54_code 6 = .ok (.invokevirtual 335, 3) := by decide +kernel
theorem d_len9 : decode prog_17_method_54_code 9 = .ok (.ishr, 1) := by decide +kernel
theorem d_len10 : decode prog_17_method_54_code 10 = .ok (.ireturn, 1) := by decide +kernel
theorem len_ok : ∀ i, i < 2 → Int32.ofNat (lenS.getD i 0) >>> ((0 : Int32) &&& 31) = Int32.ofInt (slen i : Int) ∧ Int32.ofNat (lenS.getD i 0) = Int32.ofInt (slen i : Int) ∧ lenS.getD i 0 = slen i ∧ (bytS.getD i []).length = slen i ∧ slen i < 1000 := by decide +kernel
theorem k_len (l : Launch) (adK adV : Nat → Nat) {i : Nat} (hi : i < 2) : Met l yS_len (wS yS_len prog_17_method_54_code 1 (some .int)) (rmS 2) (va_Pc [.ref (adK i)] (fun U => SpW adK adV U U.heap)) (Qs (Int32.ofInt (slen i : Int))) 0 0 nA := by
  refine Met.ofW (cc := prog_17_method_54_code) (maxL := 1) (ret := some .int) (by decide) rfl ?_
  intro p e s m args below meth c s₁ B hml hv
  obtain ⟨rfl, hSp⟩ := hv
  have hx := B.exec
  have hb := B.bytes
  have hr := B.returns
  have hts : ∀ w ∈ Tg, w.before _ s = true := fun w hw => atoms_spec (ws := wS yS_len prog_17_method_54_code 1 (some .int)) B.pre w (List.mem_cons_of_mem _ hw)
  have hown : s.vm.findClass "java/lang/String" = some m.cls := findClass_of_methodNamed B.named
  have hlocks := B.notSynchronized
  have hS : va_S nA s.heap s.heap [] := va_S.rf
  have hl := lv_entry ([.ref (adK i)]) (n := 1) (Nat.le_of_ble_eq_true rfl)
  rw [lg_entry_eq]
  generalize (lg_sl ([.ref (adK i)]) ++ List.replicate (1 - (lg_sl ([.ref (adK i)])).length) Slot.unset).toArray = ls at hl ⊢
  have hl : lv_has ls 1 [(0, .ref (adK i))] := hl
  refine lv_aload_n hx hb d_len0 rfl (lv_at hl 0 rfl) ?_
  refine vk_getf hx hb (hSp.1.1 i hi).2.2.1 hS hown (hts _ tS3.2.2.1) (fun _ h => h) d_len1 ?_
  obtain ⟨cell, t1, t2, t3, t4, t5, t6, t7⟩ := (hSp.1.1 i hi).2.2.2
  refine W.alen (n := Int32.ofNat (lenS.getD i 0)) hx hb t1 t2 t5 rfl rfl d_len4 ?_
  refine lv_aload_n hx hb d_len5 rfl (lv_at hl 0 rfl) ?_
  have hrun := va_runV (p := p) (l := l) (e := e) (below := below) (meth := meth) (locs := []) (cells := 0) (slots := 0) (R := rmS 2) (H := s.heap) (Ts := Tg) (nL := 1) (own := "java/lang/String") (b := adK i) (As := []) (rest := [.int (Int32.ofNat (lenS.getD i 0))]) (g := F0 m 6 ls [.ref (adK i), .int (Int32.ofNat (lenS.getD i 0))]) ⟨hx, hb, hml, hown, hts⟩ (k_cod l adK adV hi) ⟨cbS hts tS1.2.1 tS2.1 tS4.1 (by decide +kernel) ⟨by decide, by decide⟩, hts _ tS5.2.1, hts _ tS6.2.1⟩ ⟨SpW_blind, vk_recv hSp.1 hi hS, fun U hU hW => ⟨rfl, hSp.on hU hW⟩⟩ rfl rfl hl.1 rfl (lv_room (Nat.le_of_ble_eq_true rfl)) d_len6 ⟨Nat.le_refl _, Nat.le_refl _⟩
  refine va_callP hrun ?_
  refine lv_ishr hx hb d_len9 ?_
  rw [(len_ok i hi).1]
  exact W.iret hx hb hr (fun t ht _ => ⟨rfl, ht⟩) (fun q h => absurd h List.not_mem_nil) d_len10
