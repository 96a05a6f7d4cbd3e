theorem dAhead_0 : decode prog_2_method_1_code 0 = .ok (.aload_n 0, 1) := by decide +kernel
theorem dAhead_1 : decode prog_2_method_1_code 1 = .ok (.invokespecial 3, 3) := by decide +kernel
theorem dAhead_4 : decode prog_2_method_1_code 4 = .ok (.aload_n 0, 1) := by decide +kernel
theorem dAhead_5 : decode prog_2_method_1_code 5 = .ok (.iconst 4, 1) := by decide +kernel
theorem dAhead_6 : decode prog_2_method_1_code 6 = .ok (.anewarray 9, 3) := by decide +kernel
theorem dAhead_9 : decode prog_2_method_1_code 9 = .ok (.putfield 11, 3) := by decide +kernel
theorem dAhead_12 : decode prog_2_method_1_code 12 = .ok (.aload_n 0, 1) := by decide +kernel
theorem dAhead_13 : decode prog_2_method_1_code 13 = .ok (.iconst 3, 1) := by decide +kernel
theorem dAhead_14 : decode prog_2_method_1_code 14 = .ok (.newarray .int, 2) := by decide +kernel
theorem dAhead_16 : decode prog_2_method_1_code 16 = .ok (.putfield 17, 3) := by decide +kernel
theorem dAhead_19 : decode prog_2_method_1_code 19 = .ok (.aload_n 0, 1) := by decide +kernel
theorem dAhead_20 : decode prog_2_method_1_code 20 = .ok (.iconst 4, 1) := by decide +kernel
theorem dAhead_21 : decode prog_2_method_1_code 21 = .ok (.newarray .int, 2) := by decide +kernel
theorem dAhead_23 : decode prog_2_method_1_code 23 = .ok (.putfield 21, 3) := by decide +kernel
theorem dAhead_26 : decode prog_2_method_1_code 26 = .ok (.aload_n 0, 1) := by decide +kernel
theorem dAhead_27 : decode prog_2_method_1_code 27 = .ok (.iconst 3, 1) := by decide +kernel
theorem dAhead_28 : decode prog_2_method_1_code 28 = .ok (.newarray .int, 2) := by decide +kernel
theorem dAhead_30 : decode prog_2_method_1_code 30 = .ok (.putfield 24, 3) := by decide +kernel
theorem dAhead_33 : decode prog_2_method_1_code 33 = .ok (.iconst 0, 1) := by decide +kernel
theorem dAhead_34 : decode prog_2_method_1_code 34 = .ok (.istore_n 1, 1) := by decide +kernel
theorem dAhead_35 : decode prog_2_method_1_code 35 = .ok (.iload_n 1, 1) := by decide +kernel
theorem dAhead_36 : decode prog_2_method_1_code 36 = .ok (.iconst 4, 1) := by decide +kernel
theorem dAhead_37 : decode prog_2_method_1_code 37 = .ok (.if_icmp .ge 22, 3) := by decide +kernel
theorem dAhead_40 : decode prog_2_method_1_code 40 = .ok (.aload_n 0, 1) := by decide +kernel
theorem dAhead_41 : decode prog_2_method_1_code 41 = .ok (.getfield 11, 3) := by decide +kernel
theorem dAhead_44 : decode prog_2_method_1_code 44 = .ok (.iload_n 1, 1) := by decide +kernel
theorem dAhead_45 : decode prog_2_method_1_code 45 = .ok (.new 9, 3) := by decide +kernel
theorem dAhead_48 : decode prog_2_method_1_code 48 = .ok (.dup, 1) := by decide +kernel
theorem dAhead_49 : decode prog_2_method_1_code 49 = .ok (.invokespecial 27, 3) := by decide +kernel
theorem dAhead_52 : decode prog_2_method_1_code 52 = .ok (.aastore, 1) := by decide +kernel
theorem dAhead_53 : decode prog_2_method_1_code 53 = .ok (.iinc 1 1, 3) := by decide +kernel
theorem dAhead_56 : decode prog_2_method_1_code 56 = .ok (.goto (-21), 3) := by decide +kernel
theorem dAhead_59 : decode prog_2_method_1_code 59 = .ok (.return_, 1) := by decide +kernel
def z_Ahead (cA : Nat → ClassId) (a : Nat → Nat) : va_W := [(a 0, .inr (0, [.ref (a 1), .ref (a 2), .ref (a 3), .int 0, .int 0, .int 0, .ref (a 4), .int 0])), (a 1, .inl (cA 6, 4, .inr (.inr (.inr (.inr (va_up (va_up (va_up (va_up (fun _ => none) 0 (some (a 5))) 1 (some (a 20))) 2 (some (a 35))) 3 (some (a 50)))))))), (a 2, .inl (cA 1, 3, .inl (fun _ => 0))), (a 3, .inl (cA 1, 4, .inl (fun _ => 0))), (a 4, .inl (cA 1, 3, .inl (fun _ => 0))), (a 5, .inr (3, [.ref (a 6), .ref (a 10), .ref (a 18), .ref (a 19), .int 0, .int 10, .int 1, .int 0, .int 0, .int 0, .int 0, .int (-1)])), (a 6, .inr (9, [.ref (a 7), .ref (a 8), .ref (a 9), .int 0])), (a 7, .inl (cA 2, 6, .inr (.inl (fun _ => 0)))), (a 8, .inl (cA 1, 6, .inl (fun _ => 0))), (a 9, .inl (cA 1, 6, .inl (fun _ => 0))), (a 10, .inr (6, [.ref (a 11), .ref (a 12), .ref (a 13), .ref (a 14), .ref (a 15), .ref (a 16), .ref (a 17), .int 0, .int 0])), (a 11, .inl (cA 2, 7, .inr (.inl (fun _ => 0)))), (a 12, .inl (cA 1, 7, .inl (fun _ => 0))), (a 13, .inl (cA 1, 7, .inl (fun _ => 0))), (a 14, .inl (cA 1, 7, .inl (fun _ => 0))), (a 15, .inl (cA 1, 7, .inl (fun _ => 0))), (a 16, .inl (cA 1, 7, .inl (fun _ => 0))), (a 17, .inl (cA 1, 7, .inl (fun _ => 0))), (a 18, .inl (cA 1, 12, .inl (fun _ => 0))), (a 19, .inl (cA 1, 12, .inl (fun _ => 0))), (a 20, .inr (3, [.ref (a 21), .ref (a 25), .ref (a 33), .ref (a 34), .int 0, .int 10, .int 1, .int 0, .int 0, .int 0, .int 0, .int (-1)])), (a 21, .inr (9, [.ref (a 22), .ref (a 23), .ref (a 24), .int 0])), (a 22, .inl (cA 2, 6, .inr (.inl (fun _ => 0)))), (a 23, .inl (cA 1, 6, .inl (fun _ => 0))), (a 24, .inl (cA 1, 6, .inl (fun _ => 0))), (a 25, .inr (6, [.ref (a 26), .ref (a 27), .ref (a 28), .ref (a 29), .ref (a 30), .ref (a 31), .ref (a 32), .int 0, .int 0])), (a 26, .inl (cA 2, 7, .inr (.inl (fun _ => 0)))), (a 27, .inl (cA 1, 7, .inl (fun _ => 0))), (a 28, .inl (cA 1, 7, .inl (fun _ => 0))), (a 29, .inl (cA 1, 7, .inl (fun _ => 0))), (a 30, .inl (cA 1, 7, .inl (fun _ => 0))), (a 31, .inl (cA 1, 7, .inl (fun _ => 0))), (a 32, .inl (cA 1, 7, .inl (fun _ => 0))), (a 33, .inl (cA 1, 12, .inl (fun _ => 0))), (a 34, .inl (cA 1, 12, .inl (fun _ => 0))), (a 35, .inr (3, [.ref (a 36), .ref (a 40), .ref (a 48), .ref (a 49), .int 0, .int 10, .int 1, .int 0, .int 0, .int 0, .int 0, .int (-1)])), (a 36, .inr (9, [.ref (a 37), .ref (a 38), .ref (a 39), .int 0])), (a 37, .inl (cA 2, 6, .inr (.inl (fun _ => 0)))), (a 38, .inl (cA 1, 6, .inl (fun _ => 0))), (a 39, .inl (cA 1, 6, .inl (fun _ => 0))), (a 40, .inr (6, [.ref (a 41), .ref (a 42), .ref (a 43), .ref (a 44), .ref (a 45), .ref (a 46), .ref (a 47), .int 0, .int 0])), (a 41, .inl (cA 2, 7, .inr (.inl (fun _ => 0)))), (a 42, .inl (cA 1, 7, .inl (fun _ => 0))), (a 43, .inl (cA 1, 7, .inl (fun _ => 0))), (a 44, .inl (cA 1, 7, .inl (fun _ => 0))), (a 45, .inl (cA 1, 7, .inl (fun _ => 0))), (a 46, .inl (cA 1, 7, .inl (fun _ => 0))), (a 47, .inl (cA 1, 7, .inl (fun _ => 0))), (a 48, .inl (cA 1, 12, .inl (fun _ => 0))), (a 49, .inl (cA 1, 12, .inl (fun _ => 0))), (a 50, .inr (3, [.ref (a 51), .ref (a 55), .ref (a 63), .ref (a 64), .int 0, .int 10, .int 1, .int 0, .int 0, .int 0, .int 0, .int (-1)])), (a 51, .inr (9, [.ref (a 52), .ref (a 53), .ref (a 54), .int 0])), (a 52, .inl (cA 2, 6, .inr (.inl (fun _ => 0)))), (a 53, .inl (cA 1, 6, .inl (fun _ => 0))), (a 54, .inl (cA 1, 6, .inl (fun _ => 0))), (a 55, .inr (6, [.ref (a 56), .ref (a 57), .ref (a 58), .ref (a 59), .ref (a 60), .ref (a 61), .ref (a 62), .int 0, .int 0])), (a 56, .inl (cA 2, 7, .inr (.inl (fun _ => 0)))), (a 57, .inl (cA 1, 7, .inl (fun _ => 0))), (a 58, .inl (cA 1, 7, .inl (fun _ => 0))), (a 59, .inl (cA 1, 7, .inl (fun _ => 0))), (a 60, .inl (cA 1, 7, .inl (fun _ => 0))), (a 61, .inl (cA 1, 7, .inl (fun _ => 0))), (a 62, .inl (cA 1, 7, .inl (fun _ => 0))), (a 63, .inl (cA 1, 12, .inl (fun _ => 0))), (a 64, .inl (cA 1, 12, .inl (fun _ => 0)))]
set_option maxRecDepth 20000 in
theorem c_Ahead (l : Launch) (D : va_G) (cA : Nat → ClassId) (N0 : Nat) (adK : Nat → Nat) (X : va_W) (h0 : Nat) : Met l (⟨"SilentTurn$Ahead", "<init>", "()V"⟩ : MethodName) (wS (⟨"SilentTurn$Ahead", "<init>", "()V"⟩ : MethodName) prog_2_method_1_code 2 none) { frames := 4, cells := 64, slots := 478, locals := 240 } (va_Pc (.ref h0 :: []) (PreC D cA N0 adK (X ++ [(h0, .inr (0, df0))]))) (PostC D N0 X (z_Ahead cA) h0) 64 478 (AN N0) := by
  refine Met_con (by decide) rfl (Nat.le_of_ble_eq_true rfl) (fun p e s m args below meth c C hr hlk hnm => ?_)
  obtain ⟨adV, -, -, -, -, -, h6, h7, h8⟩ := id C.2.2.2.2.2.2.2
  refine n_aload C dAhead_0 0 rfl ?_
  refine n_obj C (inT (in_t1 (List.mem_of_getElem? (i := 186) rfl)) rfl) tObj dAhead_1 (Nat.le_of_ble_eq_true rfl) (Nat.le_of_ble_eq_true rfl) ?_
  refine n_aload C dAhead_4 0 rfl ?_
  refine n_iconst (v := 4) C dAhead_5 (by decide) ?_
  refine n_newq (N' := 4) (tk := 5) C (inT (in_t1 (List.mem_of_getElem? (i := 187) rfl)) rfl) h7 rfl (by decide) (by decide) (by decide) (Nat.le_of_ble_eq_true rfl) (Nat.le_of_ble_eq_true rfl) dAhead_6 (fun q1 => ?_)
  refine n_putF (ci := 0) (k := 0) (f := 0) C (by decide) rfl (by decide) (inT (in_t2 (List.mem_of_getElem? (i := 100) rfl)) rfl) rfl hnm rfl rfl rfl (Nat.le_of_ble_eq_true rfl) dAhead_9 ?_
  refine n_aload C dAhead_12 0 rfl ?_
  refine n_iconst (v := 3) C dAhead_13 (by decide) ?_
  refine n_newa (atype := .int) (ty := .int) (N' := 3) (tk := 0) (a0 := (3, .inl (fun _ => 0))) C (inT (in_t1 (List.mem_of_getElem? (i := 133) rfl)) rfl) rfl rfl (fun _ h => h) (fun _ => rfl) (by decide) (by decide) (by decide) (Nat.le_of_ble_eq_true rfl) (Nat.le_of_ble_eq_true rfl) dAhead_14 (fun q2 => ?_)
  refine n_putF (ci := 0) (k := 0) (f := 1) C (by decide) rfl (by decide) (inT (in_t2 (List.mem_of_getElem? (i := 101) rfl)) rfl) rfl hnm rfl rfl rfl (Nat.le_of_ble_eq_true rfl) dAhead_16 ?_
  refine n_aload C dAhead_19 0 rfl ?_
  refine n_iconst (v := 4) C dAhead_20 (by decide) ?_
  refine n_newa (atype := .int) (ty := .int) (N' := 4) (tk := 0) (a0 := (4, .inl (fun _ => 0))) C (inT (in_t1 (List.mem_of_getElem? (i := 133) rfl)) rfl) rfl rfl (fun _ h => h) (fun _ => rfl) (by decide) (by decide) (by decide) (Nat.le_of_ble_eq_true rfl) (Nat.le_of_ble_eq_true rfl) dAhead_21 (fun q3 => ?_)
  refine n_putF (ci := 0) (k := 0) (f := 2) C (by decide) rfl (by decide) (inT (in_t2 (List.mem_of_getElem? (i := 102) rfl)) rfl) rfl hnm rfl rfl rfl (Nat.le_of_ble_eq_true rfl) dAhead_23 ?_
  refine n_aload C dAhead_26 0 rfl ?_
  refine n_iconst (v := 3) C dAhead_27 (by decide) ?_
  refine n_newa (atype := .int) (ty := .int) (N' := 3) (tk := 0) (a0 := (3, .inl (fun _ => 0))) C (inT (in_t1 (List.mem_of_getElem? (i := 133) rfl)) rfl) rfl rfl (fun _ h => h) (fun _ => rfl) (by decide) (by decide) (by decide) (Nat.le_of_ble_eq_true rfl) (Nat.le_of_ble_eq_true rfl) dAhead_28 (fun q4 => ?_)
  refine n_putF (ci := 0) (k := 0) (f := 6) C (by decide) rfl (by decide) (inT (in_t2 (List.mem_of_getElem? (i := 106) rfl)) rfl) rfl hnm rfl rfl rfl (Nat.le_of_ble_eq_true rfl) dAhead_30 ?_
  refine n_iconst (v := 0) C dAhead_33 (by decide) ?_
  refine n_istore C dAhead_34 (by decide) rfl ?_
  refine n_iload C dAhead_35 0 rfl ?_
  refine n_iconst (v := 4) C dAhead_36 (by decide) ?_
  refine n_icmpge (tgt := 59) C dAhead_37 (by decide) (fun h => absurd h (by decide)) (fun _ => ?_)
  refine n_aload C dAhead_40 1 rfl ?_
  refine n_get (ci := 0) (k := 0) (f := 0) C (by decide) rfl (by decide) (inT (in_t2 (List.mem_of_getElem? (i := 100) rfl)) rfl) rfl dAhead_41 ?_
  refine n_iload C dAhead_44 0 rfl ?_
  refine n_new (ci := 3) (fs := df3) C (by decide) (inT (in_t1 (List.mem_of_getElem? (i := 187) rfl)) rfl) (inT (in_t1 (List.mem_of_getElem? (i := 188) rfl)) rfl) (inT (in_t1 (List.mem_of_getElem? (i := 10) rfl)) rfl) df3_ok (Nat.le_of_ble_eq_true rfl) (Nat.le_of_ble_eq_true rfl) dAhead_45 (fun q5 => ?_)
  refine n_dup C dAhead_48 rfl ?_
  refine n_init (n := 0) (As := []) (st := [.ref q5, .int 0, .ref q1]) C (c_House l D cA N0 adK _ q5) (inT (in_t1 (List.mem_of_getElem? (i := 191) rfl)) rfl) (inT (in_t1 (List.mem_of_getElem? (i := 10) rfl)) rfl) (Or.inr (List.mem_of_getElem? (i := 0) rfl)) (inT (in_t1 (List.mem_of_getElem? (i := 190) rfl)) rfl) rfl (by decide +kernel) rfl ⟨Nat.le_of_ble_eq_true rfl, Nat.le_of_ble_eq_true rfl⟩ (Nat.le_of_ble_eq_true rfl) dAhead_49 ⟨Nat.le_of_ble_eq_true rfl, Nat.le_of_ble_eq_true rfl⟩ (fun a1 ea1 => ?_)
  subst ea1
  refine n_aast (ci := 3) (k := 1) (k2 := 5) (tk := 5) C (by decide) rfl rfl rfl (by unfold vp_in; decide) dAhead_52 ?_
  refine n_iinc (k := 0) (v := 1) C dAhead_53 rfl (by decide) (by decide) rfl ?_
  refine n_goto (tgt := 35) C dAhead_56 (by decide) ?_
  refine n_iload C dAhead_35 0 rfl ?_
  refine n_iconst (v := 4) C dAhead_36 (by decide) ?_
  refine n_icmpge (tgt := 59) C dAhead_37 (by decide) (fun h => absurd h (by decide)) (fun _ => ?_)
  refine n_aload C dAhead_40 1 rfl ?_
  refine n_get (ci := 0) (k := 0) (f := 0) C (by decide) rfl (by decide) (inT (in_t2 (List.mem_of_getElem? (i := 100) rfl)) rfl) rfl dAhead_41 ?_
  refine n_iload C dAhead_44 0 rfl ?_
  refine n_new (ci := 3) (fs := df3) C (by decide) (inT (in_t1 (List.mem_of_getElem? (i := 187) rfl)) rfl) (inT (in_t1 (List.mem_of_getElem? (i := 188) rfl)) rfl) (inT (in_t1 (List.mem_of_getElem? (i := 10) rfl)) rfl) df3_ok (Nat.le_of_ble_eq_true rfl) (Nat.le_of_ble_eq_true rfl) dAhead_45 (fun q6 => ?_)
  refine n_dup C dAhead_48 rfl ?_
  refine n_init (n := 0) (As := []) (st := [.ref q6, .int 1, .ref q1]) C (c_House l D cA N0 adK _ q6) (inT (in_t1 (List.mem_of_getElem? (i := 191) rfl)) rfl) (inT (in_t1 (List.mem_of_getElem? (i := 10) rfl)) rfl) (Or.inr (List.mem_of_getElem? (i := 0) rfl)) (inT (in_t1 (List.mem_of_getElem? (i := 190) rfl)) rfl) rfl (by decide +kernel) rfl ⟨Nat.le_of_ble_eq_true rfl, Nat.le_of_ble_eq_true rfl⟩ (Nat.le_of_ble_eq_true rfl) dAhead_49 ⟨Nat.le_of_ble_eq_true rfl, Nat.le_of_ble_eq_true rfl⟩ (fun a2 ea2 => ?_)
  subst ea2
  refine n_aast (ci := 3) (k := 1) (k2 := 20) (tk := 5) C (by decide) rfl rfl rfl (by unfold vp_in; decide) dAhead_52 ?_
  refine n_iinc (k := 0) (v := 2) C dAhead_53 rfl (by decide) (by decide) rfl ?_
  refine n_goto (tgt := 35) C dAhead_56 (by decide) ?_
  refine n_iload C dAhead_35 0 rfl ?_
  refine n_iconst (v := 4) C dAhead_36 (by decide) ?_
  refine n_icmpge (tgt := 59) C dAhead_37 (by decide) (fun h => absurd h (by decide)) (fun _ => ?_)
  refine n_aload C dAhead_40 1 rfl ?_
  refine n_get (ci := 0) (k := 0) (f := 0) C (by decide) rfl (by decide) (inT (in_t2 (List.mem_of_getElem? (i := 100) rfl)) rfl) rfl dAhead_41 ?_
  refine n_iload C dAhead_44 0 rfl ?_
  refine n_new (ci := 3) (fs := df3) C (by decide) (inT (in_t1 (List.mem_of_getElem? (i := 187) rfl)) rfl) (inT (in_t1 (List.mem_of_getElem? (i := 188) rfl)) rfl) (inT (in_t1 (List.mem_of_getElem? (i := 10) rfl)) rfl) df3_ok (Nat.le_of_ble_eq_true rfl) (Nat.le_of_ble_eq_true rfl) dAhead_45 (fun q7 => ?_)
  refine n_dup C dAhead_48 rfl ?_
  refine n_init (n := 0) (As := []) (st := [.ref q7, .int 2, .ref q1]) C (c_House l D cA N0 adK _ q7) (inT (in_t1 (List.mem_of_getElem? (i := 191) rfl)) rfl) (inT (in_t1 (List.mem_of_getElem? (i := 10) rfl)) rfl) (Or.inr (List.mem_of_getElem? (i := 0) rfl)) (inT (in_t1 (List.mem_of_getElem? (i := 190) rfl)) rfl) rfl (by decide +kernel) rfl ⟨Nat.le_of_ble_eq_true rfl, Nat.le_of_ble_eq_true rfl⟩ (Nat.le_of_ble_eq_true rfl) dAhead_49 ⟨Nat.le_of_ble_eq_true rfl, Nat.le_of_ble_eq_true rfl⟩ (fun a3 ea3 => ?_)
  subst ea3
  refine n_aast (ci := 3) (k := 1) (k2 := 35) (tk := 5) C (by decide) rfl rfl rfl (by unfold vp_in; decide) dAhead_52 ?_
  refine n_iinc (k := 0) (v := 3) C dAhead_53 rfl (by decide) (by decide) rfl ?_
  refine n_goto (tgt := 35) C dAhead_56 (by decide) ?_
  refine n_iload C dAhead_35 0 rfl ?_
  refine n_iconst (v := 4) C dAhead_36 (by decide) ?_
  refine n_icmpge (tgt := 59) C dAhead_37 (by decide) (fun h => absurd h (by decide)) (fun _ => ?_)
  refine n_aload C dAhead_40 1 rfl ?_
  refine n_get (ci := 0) (k := 0) (f := 0) C (by decide) rfl (by decide) (inT (in_t2 (List.mem_of_getElem? (i := 100) rfl)) rfl) rfl dAhead_41 ?_
  refine n_iload C dAhead_44 0 rfl ?_
  refine n_new (ci := 3) (fs := df3) C (by decide) (inT (in_t1 (List.mem_of_getElem? (i := 187) rfl)) rfl) (inT (in_t1 (List.mem_of_getElem? (i := 188) rfl)) rfl) (inT (in_t1 (List.mem_of_getElem? (i := 10) rfl)) rfl) df3_ok (Nat.le_of_ble_eq_true rfl) (Nat.le_of_ble_eq_true rfl) dAhead_45 (fun q8 => ?_)
  refine n_dup C dAhead_48 rfl ?_
  refine n_init (n := 0) (As := []) (st := [.ref q8, .int 3, .ref q1]) C (c_House l D cA N0 adK _ q8) (inT (in_t1 (List.mem_of_getElem? (i := 191) rfl)) rfl) (inT (in_t1 (List.mem_of_getElem? (i := 10) rfl)) rfl) (Or.inr (List.mem_of_getElem? (i := 0) rfl)) (inT (in_t1 (List.mem_of_getElem? (i := 190) rfl)) rfl) rfl (by decide +kernel) rfl ⟨Nat.le_of_ble_eq_true rfl, Nat.le_of_ble_eq_true rfl⟩ (Nat.le_of_ble_eq_true rfl) dAhead_49 ⟨Nat.le_of_ble_eq_true rfl, Nat.le_of_ble_eq_true rfl⟩ (fun a4 ea4 => ?_)
  subst ea4
  refine n_aast (ci := 3) (k := 1) (k2 := 50) (tk := 5) C (by decide) rfl rfl rfl (by unfold vp_in; decide) dAhead_52 ?_
  refine n_iinc (k := 0) (v := 4) C dAhead_53 rfl (by decide) (by decide) rfl ?_
  refine n_goto (tgt := 35) C dAhead_56 (by decide) ?_
  refine n_iload C dAhead_35 0 rfl ?_
  refine n_iconst (v := 4) C dAhead_36 (by decide) ?_
  refine n_icmpge (tgt := 59) C dAhead_37 (by decide) (fun _ => ?_) (fun h => absurd (by decide) h)
  refine n_ret (fun k => match k with | 0 => h0 | 1 => q1 | 2 => q2 | 3 => q3 | 4 => q4 | 5 => (a1 0) | 6 => (a1 1) | 7 => (a1 2) | 8 => (a1 3) | 9 => (a1 4) | 10 => (a1 5) | 11 => (a1 6) | 12 => (a1 7) | 13 => (a1 8) | 14 => (a1 9) | 15 => (a1 10) | 16 => (a1 11) | 17 => (a1 12) | 18 => (a1 13) | 19 => (a1 14) | 20 => (a2 0) | 21 => (a2 1) | 22 => (a2 2) | 23 => (a2 3) | 24 => (a2 4) | 25 => (a2 5) | 26 => (a2 6) | 27 => (a2 7) | 28 => (a2 8) | 29 => (a2 9) | 30 => (a2 10) | 31 => (a2 11) | 32 => (a2 12) | 33 => (a2 13) | 34 => (a2 14) | 35 => (a3 0) | 36 => (a3 1) | 37 => (a3 2) | 38 => (a3 3) | 39 => (a3 4) | 40 => (a3 5) | 41 => (a3 6) | 42 => (a3 7) | 43 => (a3 8) | 44 => (a3 9) | 45 => (a3 10) | 46 => (a3 11) | 47 => (a3 12) | 48 => (a3 13) | 49 => (a3 14) | 50 => (a4 0) | 51 => (a4 1) | 52 => (a4 2) | 53 => (a4 3) | 54 => (a4 4) | 55 => (a4 5) | 56 => (a4 6) | 57 => (a4 7) | 58 => (a4 8) | 59 => (a4 9) | 60 => (a4 10) | 61 => (a4 11) | 62 => (a4 12) | 63 => (a4 13) | 64 => (a4 14) | _ => 0) C hr hlk rfl rfl dAhead_59
