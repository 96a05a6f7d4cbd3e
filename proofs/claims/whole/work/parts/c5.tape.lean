/-! the tape's constructor: the words of the language, five bits a letter -/
def kwSt : Nat → Nat × (Nat → Int64)
  | 0 => (0, fun _ => 0)
  | n + 1 => if schr 0 n = Int32.ofInt 32 then ((kwSt n).1 + 1, (kwSt n).2) else ((kwSt n).1, vp_updL (kwSt n).2 (kwSt n).1 (((kwSt n).2 (kwSt n).1 <<< ((Int32.ofInt 5).toInt64 &&& 63)) ||| (schr 0 n - Int32.ofInt 97 + Int32.ofInt 1).toInt64))
def z_Tape (cA : Nat → ClassId) (a : Nat → Nat) : va_W := [(a 0, .inr (8, [.ref (a 1), .ref (a 2), .int 0, .int (-1), .int (-1), .int 0, .int 0, .int 0, .int 0, .long 0, .int 0, .int 0])), (a 1, .inl (cA 1, 900, .inl (fun _ => 0))), (a 2, .inl (cA 2, 23, .inr (.inl (kwSt 133).2)))]
theorem kwSt_c : ∀ n, n < 133 → (kwSt n).1 < 23 := by decide +kernel
theorem kwSt_s {n : Nat} (h : schr 0 n = Int32.ofInt 32) : kwSt (n + 1) = ((kwSt n).1 + 1, (kwSt n).2) := if_pos h
theorem kwSt_l {n : Nat} (h : ¬ schr 0 n = Int32.ofInt 32) : kwSt (n + 1) = ((kwSt n).1, vp_updL (kwSt n).2 (kwSt n).1 (((kwSt n).2 (kwSt n).1 <<< ((Int32.ofInt 5).toInt64 &&& 63)) ||| (schr 0 n - Int32.ofInt 97 + Int32.ofInt 1).toInt64)) := if_neg h
section CON2
variable {p : Program} {l : Launch} {e : Env} {R : Room} {s : State} {m : MethodId} {args : Array Value} {below : List Frame} {meth : Method} {c : Code} {Q : State → Prop} {cc : ByteArray} {D : va_G} {cA : Nat → ClassId} {N0 nL pc cells slots : Nat} {adK : Nat → Nat} {own : String} {ws X Y : va_W} {lv : List (Nat × Value)} {st : List Value}
theorem n_lvs {lv' : List (Nat × Value)} (ks : List Nat) (h : lv_pick lv ks = lv') (kk : Cn p l e R s m args below meth c Q D N0 nL ws pc lv' st cells slots) : Cn p l e R s m args below meth c Q D N0 nL ws pc lv st cells slots := fun H locs ls hl hP hD hS => kk H locs ls (lv_sub hl ks h) hP hD hS
theorem n_icmpne {x y : Int32} {off : Int} {tgt : Nat} (C : Cc p s m args c cc D cA N0 adK nL own) (hd : decode cc pc = .ok (.if_icmp .ne off, 3)) (ht : (pc : Int) + off = (tgt : Int)) (kt : ¬ x = y → Cn p l e R s m args below meth c Q D N0 nL ws tgt lv st cells slots) (kf : x = y → Cn p l e R s m args below meth c Q D N0 nL ws (pc + 3) lv st cells slots) : Cn p l e R s m args below meth c Q D N0 nL ws pc lv (.int y :: .int x :: st) cells slots := fun H locs ls hl hP hD hS => lv_icmp_ne C.1 C.2.1 hd ht (fun h => kt h H locs ls hl hP hD hS) (fun h => kf h H locs ls hl hP hD hS)
theorem n_iadd {x y : Int32} (C : Cc p s m args c cc D cA N0 adK nL own) (hd : decode cc pc = .ok (.iadd, 1)) (kk : Cn p l e R s m args below meth c Q D N0 nL ws (pc + 1) lv (.int (x + y) :: st) cells slots) : Cn p l e R s m args below meth c Q D N0 nL ws pc lv (.int y :: .int x :: st) cells slots := fun H locs ls hl hP hD hS => lv_iadd C.1 C.2.1 hd (kk H locs ls hl hP hD hS)
theorem n_isub {x y : Int32} (C : Cc p s m args c cc D cA N0 adK nL own) (hd : decode cc pc = .ok (.isub, 1)) (kk : Cn p l e R s m args below meth c Q D N0 nL ws (pc + 1) lv (.int (x - y) :: st) cells slots) : Cn p l e R s m args below meth c Q D N0 nL ws pc lv (.int y :: .int x :: st) cells slots := fun H locs ls hl hP hD hS => lv_isub C.1 C.2.1 hd (kk H locs ls hl hP hD hS)
theorem n_lor {x y : Int64} (C : Cc p s m args c cc D cA N0 adK nL own) (hd : decode cc pc = .ok (.lor, 1)) (kk : Cn p l e R s m args below meth c Q D N0 nL ws (pc + 1) lv (.long (x ||| y) :: st) cells slots) : Cn p l e R s m args below meth c Q D N0 nL ws pc lv (.long y :: .long x :: st) cells slots := fun H locs ls hl hP hD hS => lv_lor C.1 C.2.1 hd (kk H locs ls hl hP hD hS)
theorem n_i2l {x : Int32} (C : Cc p s m args c cc D cA N0 adK nL own) (hd : decode cc pc = .ok (.i2l, 1)) (kk : Cn p l e R s m args below meth c Q D N0 nL ws (pc + 1) lv (.long x.toInt64 :: st) cells slots) : Cn p l e R s m args below meth c Q D N0 nL ws pc lv (.int x :: st) cells slots := fun H locs ls hl hP hD hS => lv_i2l C.1 C.2.1 hd rfl (kk H locs ls hl hP hD hS)
theorem n_lshl {x : Int64} {y : Int32} (C : Cc p s m args c cc D cA N0 adK nL own) (hd : decode cc pc = .ok (.lshl, 1)) (kk : Cn p l e R s m args below meth c Q D N0 nL ws (pc + 1) lv (.long (x <<< (y.toInt64 &&& 63)) :: st) cells slots) : Cn p l e R s m args below meth c Q D N0 nL ws pc lv (.int y :: .long x :: st) cells slots := fun H locs ls hl hP hD hS => lv_lshl C.1 C.2.1 hd rfl (kk H locs ls hl hP hD hS)
theorem n_lald {k tk a n ix : Nat} {cI : ClassId} {f : Nat → Int64} {i : Int32} (C : Cc p s m args c cc D cA N0 adK nL own) (he : Y[k]? = some (a, .inl (cI, n, .inr (.inl f)))) (htk : (tysA cA)[tk]? = some (cI, .long)) (hin : vp_in i n) (hix : i.toNatClampNeg = ix) (hd : decode cc pc = .ok (.laload, 1)) (kk : Cn p l e R s m args below meth c Q D N0 nL (X ++ Y) (pc + 1) lv (.long (f ix) :: st) cells slots) : Cn p l e R s m args below meth c Q D N0 nL (X ++ Y) pc lv (.int i :: .ref a :: st) cells slots := by
  intro H locs ls hl hP hD hS
  subst hix
  exact va_lald C.1 C.2.1 C.2.2.2.2.2.1 hP (X.length + k) tk (by rw [apx_at]; exact he) htk hin hd (kk H locs ls hl hP hD hS)
theorem n_last {k tk a n ix : Nat} {cI : ClassId} {f : Nat → Int64} {i : Int32} {x : Int64} (C : Cc p s m args c cc D cA N0 adK nL own) (he : Y[k]? = some (a, .inl (cI, n, .inr (.inl f)))) (htk : (tysA cA)[tk]? = some (cI, .long)) (hin : vp_in i n) (hix : i.toNatClampNeg = ix) (hd : decode cc pc = .ok (.lastore, 1)) (kk : Cn p l e R s m args below meth c Q D N0 nL (X ++ Y.set k (a, .inl (cI, n, .inr (.inl (vp_updL f ix x))))) (pc + 1) lv st cells slots) : Cn p l e R s m args below meth c Q D N0 nL (X ++ Y) pc lv (.long x :: .int i :: .ref a :: st) cells slots := by
  intro H locs ls hl hP hD hS
  subst hix
  refine va_last C.1 C.2.1 C.2.2.2.2.2.1 hP hD hS (X.length + k) tk (by rw [apx_at]; exact he) htk hin hd (fun H1 locs1 hP1 hD1 hS1 => ?_)
  rw [apx_set] at hP1 hD1
  exact kk H1 locs1 ls hl hP1 hD1 hS1
theorem n_ldcS (C : Cc p s m args c cc D cA N0 adK nL RX8) (hd : decode cc pc = .ok (.ldc 26, 2)) (kk : Cn p l e R s m args below meth c Q D N0 nL ws (pc + 2) lv (.ref (adK 0) :: st) cells slots) : Cn p l e R s m args below meth c Q D N0 nL ws pc lv st cells slots := by
  intro H locs ls hl hP hD hS
  obtain ⟨hx, hb, hown, hml, hts, hK, hN0, adV, h1, h2, h3⟩ := C
  exact va_ldcS hx hb hown h2.1 hd (kk H locs ls hl hP hD hS)
theorem SWc_SpW {H : Heap} {locs : List Loc} (hW : SWc N0 adK s s.heap) (hS : va_S (AN N0) s.heap H locs) : ∃ adV : Nat → Nat, SpW adK adV s H ∧ vk_S 2 lenS bytS adK adV (AN N0) s s.heap := by
  obtain ⟨adV, h1, h2, h3, h4, h5⟩ := hW
  exact ⟨adV, ⟨(h1.kept hS.2.1).narrow (fun _ h => h.elim), (h3.kept hS.2.1).narrow (fun _ h => h.elim), (h4.kept hS.2.1).narrow (fun _ h => h.elim)⟩, h1⟩
theorem n_slen {i : Nat} (hi : i < 2) (C : Cc p s m args c cc D cA N0 adK nL RX8) (hf : 3 ≤ R.frames) (hlo : 100 ≤ R.locals) (hst : (st.map fun v => v.category).sum ≤ 8) (hd : decode cc pc = .ok (.invokevirtual 28, 3)) (hcs : cells ≤ R.cells ∧ slots ≤ R.slots) (kk : Cn p l e R s m args below meth c Q D N0 nL ws (pc + 3) lv (.int (Int32.ofInt (slen i : Int)) :: st) cells slots) : Cn p l e R s m args below meth c Q D N0 nL ws pc lv (.ref (adK i) :: st) cells slots := by
  intro H locs ls hl hP hD hS
  obtain ⟨hx, hb, hown, hml, hts, hK, hN0, hW⟩ := C
  obtain ⟨adV, hSp, hvk⟩ := SWc_SpW hW hS
  have hrun := va_runV (p := p) (l := l) (e := e) (below := below) (meth := meth) (locs := locs) (cells := cells) (slots := slots) (R := R) (H := H) (Ts := Tg) (nL := nL) (own := RX8) (b := adK i) (As := []) (rest := st) (g := F0 m pc ls (.ref (adK i) :: st)) ⟨hx, hb, hml, hown, hts⟩ (k_len l adK adV hi) ⟨cbS (n := 0) hts tS1.1 tS2.1 tS4.2.2.2.2.2.1 (by decide +kernel) ⟨by omega, by omega⟩, hts _ tS5.1, hts _ tS6.1⟩ ⟨SpW_blind, vk_recv hvk hi hS, fun U hU hw => ⟨rfl, hSp.on hU hw⟩⟩ rfl rfl hl.1 rfl (lv_room hst) hd hcs
  exact va_callP hrun (kk H locs ls hl hP hD hS)
theorem n_schr {i : Nat} {j : Int32} (hi : i < 2) (C : Cc p s m args c cc D cA N0 adK nL RX8) (hj : vp_in j (slen i)) (hf : 5 ≤ R.frames) (hlo : 200 ≤ R.locals) (hst : (st.map fun v => v.category).sum ≤ 8) (hd : decode cc pc = .ok (.invokevirtual 34, 3)) (hcs : cells ≤ R.cells ∧ slots ≤ R.slots) (kk : Cn p l e R s m args below meth c Q D N0 nL ws (pc + 3) lv (.int (schr i j.toNatClampNeg) :: st) cells slots) : Cn p l e R s m args below meth c Q D N0 nL ws pc lv (.int j :: .ref (adK i) :: st) cells slots := by
  intro H locs ls hl hP hD hS
  obtain ⟨hx, hb, hown, hml, hts, hK, hN0, hW⟩ := C
  obtain ⟨adV, hSp, hvk⟩ := SWc_SpW hW hS
  have hrun := va_runV (p := p) (l := l) (e := e) (below := below) (meth := meth) (locs := locs) (cells := cells) (slots := slots) (R := R) (H := H) (Ts := Tg) (nL := nL) (own := RX8) (b := adK i) (As := [.int j]) (rest := st) (g := F0 m pc ls (.int j :: .ref (adK i) :: st)) ⟨hx, hb, hml, hown, hts⟩ (k_cha l adK adV hi hj) ⟨cbS (n := 1) hts tS1.2.2.1 tS2.1 tS4.2.2.2.2.2.2.1 (by decide +kernel) ⟨by omega, by omega⟩, hts _ tS5.2.2.1, hts _ tS6.2.2.1⟩ ⟨SpW_blind, vk_recv hvk hi hS, fun U hU hw => ⟨rfl, hSp.on hU hw⟩⟩ rfl rfl hl.1 rfl (lv_room hst) hd hcs
  exact va_callP hrun (kk H locs ls hl hP hD hS)
end CON2

theorem dTape_0 : decode prog_10_method_1_code 0 = .ok (.aload_n 0, 1) := by decide +kernel
theorem dTape_1 : decode prog_10_method_1_code 1 = .ok (.invokespecial 3, 3) := by decide +kernel
theorem dTape_4 : decode prog_10_method_1_code 4 = .ok (.aload_n 0, 1) := by decide +kernel
theorem dTape_5 : decode prog_10_method_1_code 5 = .ok (.sipush 900, 3) := by decide +kernel
theorem dTape_8 : decode prog_10_method_1_code 8 = .ok (.newarray .int, 2) := by decide +kernel
theorem dTape_10 : decode prog_10_method_1_code 10 = .ok (.putfield 9, 3) := by decide +kernel
theorem dTape_13 : decode prog_10_method_1_code 13 = .ok (.aload_n 0, 1) := by decide +kernel
theorem dTape_14 : decode prog_10_method_1_code 14 = .ok (.bipush 23, 2) := by decide +kernel
theorem dTape_16 : decode prog_10_method_1_code 16 = .ok (.newarray .long, 2) := by decide +kernel
theorem dTape_18 : decode prog_10_method_1_code 18 = .ok (.putfield 15, 3) := by decide +kernel
theorem dTape_21 : decode prog_10_method_1_code 21 = .ok (.aload_n 0, 1) := by decide +kernel
theorem dTape_22 : decode prog_10_method_1_code 22 = .ok (.iconst (-1), 1) := by decide +kernel
theorem dTape_23 : decode prog_10_method_1_code 23 = .ok (.putfield 19, 3) := by decide +kernel
theorem dTape_26 : decode prog_10_method_1_code 26 = .ok (.aload_n 0, 1) := by decide +kernel
theorem dTape_27 : decode prog_10_method_1_code 27 = .ok (.iconst (-1), 1) := by decide +kernel
theorem dTape_28 : decode prog_10_method_1_code 28 = .ok (.putfield 23, 3) := by decide +kernel
theorem dTape_31 : decode prog_10_method_1_code 31 = .ok (.iconst 0, 1) := by decide +kernel
theorem dTape_32 : decode prog_10_method_1_code 32 = .ok (.istore_n 1, 1) := by decide +kernel
theorem dTape_33 : decode prog_10_method_1_code 33 = .ok (.iconst 0, 1) := by decide +kernel
theorem dTape_34 : decode prog_10_method_1_code 34 = .ok (.istore_n 2, 1) := by decide +kernel
theorem dTape_35 : decode prog_10_method_1_code 35 = .ok (.iload_n 2, 1) := by decide +kernel
theorem dTape_36 : decode prog_10_method_1_code 36 = .ok (.ldc 26, 2) := by decide +kernel
theorem dTape_38 : decode prog_10_method_1_code 38 = .ok (.invokevirtual 28, 3) := by decide +kernel
theorem dTape_41 : decode prog_10_method_1_code 41 = .ok (.if_icmp .ge 56, 3) := by decide +kernel
theorem dTape_44 : decode prog_10_method_1_code 44 = .ok (.iload_n 1, 1) := by decide +kernel
theorem dTape_45 : decode prog_10_method_1_code 45 = .ok (.bipush 23, 2) := by decide +kernel
theorem dTape_47 : decode prog_10_method_1_code 47 = .ok (.if_icmp .ge 50, 3) := by decide +kernel
theorem dTape_50 : decode prog_10_method_1_code 50 = .ok (.ldc 26, 2) := by decide +kernel
theorem dTape_52 : decode prog_10_method_1_code 52 = .ok (.iload_n 2, 1) := by decide +kernel
theorem dTape_53 : decode prog_10_method_1_code 53 = .ok (.invokevirtual 34, 3) := by decide +kernel
theorem dTape_56 : decode prog_10_method_1_code 56 = .ok (.istore_n 3, 1) := by decide +kernel
theorem dTape_57 : decode prog_10_method_1_code 57 = .ok (.iload_n 3, 1) := by decide +kernel
theorem dTape_58 : decode prog_10_method_1_code 58 = .ok (.bipush 32, 2) := by decide +kernel
theorem dTape_60 : decode prog_10_method_1_code 60 = .ok (.if_icmp .ne 9, 3) := by decide +kernel
theorem dTape_63 : decode prog_10_method_1_code 63 = .ok (.iinc 1 1, 3) := by decide +kernel
theorem dTape_66 : decode prog_10_method_1_code 66 = .ok (.goto 25, 3) := by decide +kernel
theorem dTape_69 : decode prog_10_method_1_code 69 = .ok (.aload_n 0, 1) := by decide +kernel
theorem dTape_70 : decode prog_10_method_1_code 70 = .ok (.getfield 15, 3) := by decide +kernel
theorem dTape_73 : decode prog_10_method_1_code 73 = .ok (.iload_n 1, 1) := by decide +kernel
theorem dTape_74 : decode prog_10_method_1_code 74 = .ok (.aload_n 0, 1) := by decide +kernel
theorem dTape_75 : decode prog_10_method_1_code 75 = .ok (.getfield 15, 3) := by decide +kernel
theorem dTape_78 : decode prog_10_method_1_code 78 = .ok (.iload_n 1, 1) := by decide +kernel
theorem dTape_79 : decode prog_10_method_1_code 79 = .ok (.laload, 1) := by decide +kernel
theorem dTape_80 : decode prog_10_method_1_code 80 = .ok (.iconst 5, 1) := by decide +kernel
theorem dTape_81 : decode prog_10_method_1_code 81 = .ok (.lshl, 1) := by decide +kernel
theorem dTape_82 : decode prog_10_method_1_code 82 = .ok (.iload_n 3, 1) := by decide +kernel
theorem dTape_83 : decode prog_10_method_1_code 83 = .ok (.bipush 97, 2) := by decide +kernel
theorem dTape_85 : decode prog_10_method_1_code 85 = .ok (.isub, 1) := by decide +kernel
theorem dTape_86 : decode prog_10_method_1_code 86 = .ok (.iconst 1, 1) := by decide +kernel
theorem dTape_87 : decode prog_10_method_1_code 87 = .ok (.iadd, 1) := by decide +kernel
theorem dTape_88 : decode prog_10_method_1_code 88 = .ok (.i2l, 1) := by decide +kernel
theorem dTape_89 : decode prog_10_method_1_code 89 = .ok (.lor, 1) := by decide +kernel
theorem dTape_90 : decode prog_10_method_1_code 90 = .ok (.lastore, 1) := by decide +kernel
theorem dTape_91 : decode prog_10_method_1_code 91 = .ok (.iinc 2 1, 3) := by decide +kernel
theorem dTape_94 : decode prog_10_method_1_code 94 = .ok (.goto (-59), 3) := by decide +kernel
theorem dTape_97 : decode prog_10_method_1_code 97 = .ok (.return_, 1) := by decide +kernel
set_option maxRecDepth 20000 in
theorem c_Tape (l : Launch) (D : va_G) (cA : Nat → ClassId) (N0 : Nat) (adK : Nat → Nat) (X : va_W) (h0 : Nat) : Met l (⟨"SilentTurn$Tape", "<init>", "()V"⟩ : MethodName) (wS (⟨"SilentTurn$Tape", "<init>", "()V"⟩ : MethodName) prog_10_method_1_code 4 none) { frames := 6, cells := 2, slots := 923, locals := 360 } (va_Pc (.ref h0 :: []) (PreC D cA N0 adK (X ++ [(h0, .inr (8, df8))]))) (PostC D N0 X (z_Tape cA) h0) 2 923 (AN N0) := by
  refine Met_con (by decide) rfl (Nat.le_of_ble_eq_true rfl) (fun p e s m args below meth c C hr hlk hnm => ?_)
  refine n_aload C dTape_0 0 rfl ?_
  refine n_obj C (inT (in_t1 (List.mem_of_getElem? (i := 37) rfl)) rfl) tObj dTape_1 (Nat.le_of_ble_eq_true rfl) (Nat.le_of_ble_eq_true rfl) ?_
  refine n_aload C dTape_4 0 rfl ?_
  refine n_sipush (v := 900) C dTape_5 (by decide) ?_
  refine n_newa (atype := .int) (ty := .int) (N' := 900) (tk := 0) (a0 := (900, .inl (fun _ => 0))) C (inT (in_t1 (List.mem_of_getElem? (i := 133) rfl)) rfl) rfl rfl (fun _ h => h) (fun _ => rfl) (by decide) (by decide) (by decide) (Nat.le_of_ble_eq_true rfl) (Nat.le_of_ble_eq_true rfl) dTape_8 (fun q1 => ?_)
  refine n_putF (ci := 8) (k := 0) (f := 0) C (by decide) rfl (by decide) (inT (in_t1 (List.mem_of_getElem? (i := 87) rfl)) rfl) rfl hnm rfl rfl rfl (Nat.le_of_ble_eq_true rfl) dTape_10 ?_
  refine n_aload C dTape_13 0 rfl ?_
  refine n_bipush (v := 23) C dTape_14 (by decide) ?_
  refine n_newa (atype := .long) (ty := .long) (N' := 23) (tk := 1) (a0 := (23, .inr (.inl (fun _ => 0)))) C (inT (in_t1 (List.mem_of_getElem? (i := 134) rfl)) rfl) rfl rfl (fun _ h => h) (fun _ => rfl) (by decide) (by decide) (by decide) (Nat.le_of_ble_eq_true rfl) (Nat.le_of_ble_eq_true rfl) dTape_16 (fun q2 => ?_)
  refine n_putF (ci := 8) (k := 0) (f := 1) C (by decide) rfl (by decide) (inT (in_t1 (List.mem_of_getElem? (i := 88) rfl)) rfl) rfl hnm rfl rfl rfl (Nat.le_of_ble_eq_true rfl) dTape_18 ?_
  refine n_aload C dTape_21 0 rfl ?_
  refine n_iconst (v := -1) C dTape_22 (by decide) ?_
  refine n_put (ci := 8) (k := 0) (f := 3) C (by decide) rfl (by decide) (inT (in_t1 (List.mem_of_getElem? (i := 91) rfl)) rfl) rfl rfl rfl (Nat.le_of_ble_eq_true rfl) dTape_23 ?_
  refine n_aload C dTape_26 0 rfl ?_
  refine n_iconst (v := -1) C dTape_27 (by decide) ?_
  refine n_put (ci := 8) (k := 0) (f := 4) C (by decide) rfl (by decide) (inT (in_t1 (List.mem_of_getElem? (i := 93) rfl)) rfl) rfl rfl rfl (Nat.le_of_ble_eq_true rfl) dTape_28 ?_
  refine n_iconst (v := Int32.ofInt ((0 : Nat) : Int)) C dTape_31 rfl ?_
  refine n_istore C dTape_32 (by decide) rfl ?_
  refine n_iconst (v := Int32.ofInt ((0 : Nat) : Int)) C dTape_33 rfl ?_
  refine n_istore C dTape_34 (by decide) rfl ?_
  have key : ∀ (k n : Nat), n + k = 133 → Cn p l e { frames := 6, cells := 2, slots := 923, locals := 360 } s m args below meth c (MQ below (PostC D N0 X (z_Tape cA) h0) args s 2 923 (AN N0)) D N0 4 (X ++ [(h0, .inr (8, [.ref q1, .ref q2, .int 0, .int (-1), .int (-1), .int 0, .int 0, .int 0, .int 0, .long 0, .int 0, .int 0])), (q1, .inl (cA 1, 900, .inl (fun _ => 0))), (q2, .inl (cA 2, 23, .inr (.inl (kwSt n).2)))]) 35 [(2, .int (Int32.ofInt (n : Int))), (1, .int (Int32.ofInt ((kwSt n).1 : Int))), (0, .ref h0)] [] 2 923 := by
    intro k
    induction k with
    | zero =>
      intro n hn
      have e134 : n = 133 := by omega
      subst e134
      refine n_iload C dTape_35 0 rfl ?_
      refine n_ldcS C dTape_36 ?_
      refine n_slen (i := 0) (by omega) C (Nat.le_of_ble_eq_true rfl) (Nat.le_of_ble_eq_true rfl) (Nat.le_of_ble_eq_true rfl) dTape_38 ⟨Nat.le_refl _, Nat.le_refl _⟩ ?_
      refine n_icmpge (tgt := 97) C dTape_41 (by decide) (fun _ => ?_) (fun h => absurd (by decide) h)
      exact n_ret (fun k => match k with | 0 => h0 | 1 => q1 | 2 => q2 | _ => 0) C hr hlk rfl rfl dTape_97
    | succ k ih =>
      intro n hn
      have hc := kwSt_c n (by omega)
      have h134 : slen 0 = 133 := by decide
      have hcn : (Int32.ofInt ((kwSt n).1 : Int)).toNatClampNeg = (kwSt n).1 := by rw [oi_nat (by omega) (by omega), Int.toNat_natCast]
      have hin : vp_in (Int32.ofInt ((kwSt n).1 : Int)) 23 := (oi_in (by omega) (by omega)).mpr ⟨by omega, by omega⟩
      refine n_iload C dTape_35 0 rfl ?_
      refine n_ldcS C dTape_36 ?_
      refine n_slen (i := 0) (by omega) C (Nat.le_of_ble_eq_true rfl) (Nat.le_of_ble_eq_true rfl) (Nat.le_of_ble_eq_true rfl) dTape_38 ⟨Nat.le_refl _, Nat.le_refl _⟩ ?_
      rw [h134]
      refine n_icmpge (tgt := 97) C dTape_41 (by decide) (fun h => ?_) (fun _ => ?_)
      · rw [oi_le (by omega) (by omega) (by omega) (by omega)] at h
        omega
      refine n_iload C dTape_44 1 rfl ?_
      refine n_bipush (v := Int32.ofInt 23) C dTape_45 (by decide) ?_
      refine n_icmpge (tgt := 97) C dTape_47 (by decide) (fun h => ?_) (fun _ => ?_)
      · rw [oi_le (by omega) (by omega) (by omega) (by omega)] at h
        omega
      refine n_ldcS C dTape_50 ?_
      refine n_iload C dTape_52 0 rfl ?_
      refine n_schr (i := 0) (by omega) C (by rw [h134]; exact (oi_in (by omega) (by omega)).mpr ⟨by omega, by omega⟩) (Nat.le_of_ble_eq_true rfl) (Nat.le_of_ble_eq_true rfl) (Nat.le_of_ble_eq_true rfl) dTape_53 ⟨Nat.le_refl _, Nat.le_refl _⟩ ?_
      rw [oi_nat (by omega) (by omega), Int.toNat_natCast]
      refine n_istore C dTape_56 (by decide) rfl ?_
      refine n_iload C dTape_57 0 rfl ?_
      refine n_bipush (v := Int32.ofInt 32) C dTape_58 (by decide) ?_
      refine n_icmpne (tgt := 69) C dTape_60 (by decide) (fun h => ?_) (fun h => ?_)
      · refine n_aload C dTape_69 3 rfl ?_
        refine n_get (ci := 8) (k := 0) (f := 1) C (by decide) rfl (by decide) (inT (in_t1 (List.mem_of_getElem? (i := 88) rfl)) rfl) rfl dTape_70 ?_
        refine n_iload C dTape_73 2 rfl ?_
        refine n_aload C dTape_74 3 rfl ?_
        refine n_get (ci := 8) (k := 0) (f := 1) C (by decide) rfl (by decide) (inT (in_t1 (List.mem_of_getElem? (i := 88) rfl)) rfl) rfl dTape_75 ?_
        refine n_iload C dTape_78 2 rfl ?_
        refine n_lald (k := 2) (tk := 1) C rfl rfl hin hcn dTape_79 ?_
        refine n_iconst (v := Int32.ofInt 5) C dTape_80 rfl ?_
        refine n_lshl C dTape_81 ?_
        refine n_iload C dTape_82 0 rfl ?_
        refine n_bipush (v := Int32.ofInt 97) C dTape_83 (by decide) ?_
        refine n_isub C dTape_85 ?_
        refine n_iconst (v := Int32.ofInt 1) C dTape_86 rfl ?_
        refine n_iadd C dTape_87 ?_
        refine n_i2l C dTape_88 ?_
        refine n_lor C dTape_89 ?_
        refine n_last (k := 2) (tk := 1) C rfl rfl hin hcn dTape_90 ?_
        refine n_iinc (k := 1) (v := Int32.ofInt ((n + 1 : Nat) : Int)) C dTape_91 rfl (by rw [oi_add]; rfl) (by decide) rfl ?_
        refine n_goto (tgt := 35) C dTape_94 (by decide) ?_
        refine n_lvs [0, 2, 3] rfl ?_
        have := ih (n + 1) (by omega)
        rw [kwSt_l h] at this
        exact this
      · refine n_iinc (k := 2) (v := Int32.ofInt (((kwSt n).1 + 1 : Nat) : Int)) C dTape_63 rfl (by rw [oi_add]; rfl) (by decide) rfl ?_
        refine n_goto (tgt := 91) C dTape_66 (by decide) ?_
        refine n_iinc (k := 2) (v := Int32.ofInt ((n + 1 : Nat) : Int)) C dTape_91 rfl (by rw [oi_add]; rfl) (by decide) rfl ?_
        refine n_goto (tgt := 35) C dTape_94 (by decide) ?_
        refine n_lvs [0, 1, 3] rfl ?_
        have := ih (n + 1) (by omega)
        rw [kwSt_s h] at this
        exact this
  exact key 133 0 (by omega)

