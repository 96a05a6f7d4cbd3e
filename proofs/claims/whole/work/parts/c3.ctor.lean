/-! the constructors -/
theorem tObj : Cond.instanceMethod Lib.objectInit ∈ Tg ∧ Cond.code Lib.objectInit ⟨#[0xb1]⟩ 1 none ∈ Tg := ⟨inT (in_t1 (List.mem_of_getElem? (i := 28) rfl)) rfl, inT (in_t1 (List.mem_of_getElem? (i := 29) rfl)) rfl⟩
def df0 : List Value := [.null, .null, .null, .int 0, .int 0, .int 0, .null, .int 0]
theorem df0_ok : ∀ j, j < (fkl 0).length → defaultValue (tyTT 0 j) = vp_V df0 j
  | 0, _ => rfl
  | 1, _ => rfl
  | 2, _ => rfl
  | 3, _ => rfl
  | 4, _ => rfl
  | 5, _ => rfl
  | 6, _ => rfl
  | 7, _ => rfl
  | j + 8, h => absurd h (by have e : (fkl 0).length = 8 := rfl; omega)
def df1 : List Value := [.null, .null, .null, .null, .null, .null, .int 0, .int 0, .int 0]
theorem df1_ok : ∀ j, j < (fkl 1).length → defaultValue (tyTT 1 j) = vp_V df1 j
  | 0, _ => rfl
  | 1, _ => rfl
  | 2, _ => rfl
  | 3, _ => rfl
  | 4, _ => rfl
  | 5, _ => rfl
  | 6, _ => rfl
  | 7, _ => rfl
  | 8, _ => rfl
  | j + 9, h => absurd h (by have e : (fkl 1).length = 9 := rfl; omega)
def df2 : List Value := [.null, .null, .int 0, .null, .null]
theorem df2_ok : ∀ j, j < (fkl 2).length → defaultValue (tyTT 2 j) = vp_V df2 j
  | 0, _ => rfl
  | 1, _ => rfl
  | 2, _ => rfl
  | 3, _ => rfl
  | 4, _ => rfl
  | j + 5, h => absurd h (by have e : (fkl 2).length = 5 := rfl; omega)
def df3 : List Value := [.null, .null, .null, .null, .int 0, .int 0, .int 0, .int 0, .int 0, .int 0, .int 0, .int 0]
theorem df3_ok : ∀ j, j < (fkl 3).length → defaultValue (tyTT 3 j) = vp_V df3 j
  | 0, _ => rfl
  | 1, _ => rfl
  | 2, _ => rfl
  | 3, _ => rfl
  | 4, _ => rfl
  | 5, _ => rfl
  | 6, _ => rfl
  | 7, _ => rfl
  | 8, _ => rfl
  | 9, _ => rfl
  | 10, _ => rfl
  | 11, _ => rfl
  | j + 12, h => absurd h (by have e : (fkl 3).length = 12 := rfl; omega)
def df4 : List Value := [.null, .null, .int 0, .int 0]
theorem df4_ok : ∀ j, j < (fkl 4).length → defaultValue (tyTT 4 j) = vp_V df4 j
  | 0, _ => rfl
  | 1, _ => rfl
  | 2, _ => rfl
  | 3, _ => rfl
  | j + 4, h => absurd h (by have e : (fkl 4).length = 4 := rfl; omega)
def df5 : List Value := [.null, .null, .null, .int 0, .int 0, .int 0, .int 0, .int 0, .int 0, .int 0, .int 0]
theorem df5_ok : ∀ j, j < (fkl 5).length → defaultValue (tyTT 5 j) = vp_V df5 j
  | 0, _ => rfl
  | 1, _ => rfl
  | 2, _ => rfl
  | 3, _ => rfl
  | 4, _ => rfl
  | 5, _ => rfl
  | 6, _ => rfl
  | 7, _ => rfl
  | 8, _ => rfl
  | 9, _ => rfl
  | 10, _ => rfl
  | j + 11, h => absurd h (by have e : (fkl 5).length = 11 := rfl; omega)
def df6 : List Value := [.null, .null, .null, .null, .null, .null, .null, .int 0, .int 0]
theorem df6_ok : ∀ j, j < (fkl 6).length → defaultValue (tyTT 6 j) = vp_V df6 j
  | 0, _ => rfl
  | 1, _ => rfl
  | 2, _ => rfl
  | 3, _ => rfl
  | 4, _ => rfl
  | 5, _ => rfl
  | 6, _ => rfl
  | 7, _ => rfl
  | 8, _ => rfl
  | j + 9, h => absurd h (by have e : (fkl 6).length = 9 := rfl; omega)
def df7 : List Value := [.null, .null, .int 0]
theorem df7_ok : ∀ j, j < (fkl 7).length → defaultValue (tyTT 7 j) = vp_V df7 j
  | 0, _ => rfl
  | 1, _ => rfl
  | 2, _ => rfl
  | j + 3, h => absurd h (by have e : (fkl 7).length = 3 := rfl; omega)
def df8 : List Value := [.null, .null, .int 0, .int 0, .int 0, .int 0, .int 0, .int 0, .int 0, .long 0, .int 0, .int 0]
theorem df8_ok : ∀ j, j < (fkl 8).length → defaultValue (tyTT 8 j) = vp_V df8 j
  | 0, _ => rfl
  | 1, _ => rfl
  | 2, _ => rfl
  | 3, _ => rfl
  | 4, _ => rfl
  | 5, _ => rfl
  | 6, _ => rfl
  | 7, _ => rfl
  | 8, _ => rfl
  | 9, _ => rfl
  | 10, _ => rfl
  | 11, _ => rfl
  | j + 12, h => absurd h (by have e : (fkl 8).length = 12 := rfl; omega)
def df9 : List Value := [.null, .null, .null, .int 0]
theorem df9_ok : ∀ j, j < (fkl 9).length → defaultValue (tyTT 9 j) = vp_V df9 j
  | 0, _ => rfl
  | 1, _ => rfl
  | 2, _ => rfl
  | 3, _ => rfl
  | j + 4, h => absurd h (by have e : (fkl 9).length = 4 := rfl; omega)
def df10 : List Value := [.null, .int 0, .int 0, .int 0]
theorem df10_ok : ∀ j, j < (fkl 10).length → defaultValue (tyTT 10 j) = vp_V df10 j
  | 0, _ => rfl
  | 1, _ => rfl
  | 2, _ => rfl
  | 3, _ => rfl
  | j + 4, h => absurd h (by have e : (fkl 10).length = 4 := rfl; omega)
def df11 : List Value := [.null, .null, .null, .null, .null, .null, .null, .null, .null, .null, .null, .null, .null, .null, .null, .int 0, .int 0, .long 0, .long 0]
theorem df11_ok : ∀ j, j < (fkl 11).length → defaultValue (tyTT 11 j) = vp_V df11 j
  | 0, _ => rfl
  | 1, _ => rfl
  | 2, _ => rfl
  | 3, _ => rfl
  | 4, _ => rfl
  | 5, _ => rfl
  | 6, _ => rfl
  | 7, _ => rfl
  | 8, _ => rfl
  | 9, _ => rfl
  | 10, _ => rfl
  | 11, _ => rfl
  | 12, _ => rfl
  | 13, _ => rfl
  | 14, _ => rfl
  | 15, _ => rfl
  | 16, _ => rfl
  | 17, _ => rfl
  | 18, _ => rfl
  | j + 19, h => absurd h (by have e : (fkl 11).length = 19 := rfl; omega)
def df12 : List Value := [.null, .null, .int 0, .long 0, .long 0, .null, .null, .null, .null, .null, .int 0, .int 0, .int 0, .int 0, .int 0, .int 0, .int 0, .int 0, .int 0, .int 0, .int 0, .null, .int 0, .int 0, .int 0, .int 0, .int 0, .null, .null, .int 0, .null, .null, .null, .int 0, .int 0, .null, .null, .int 0, .null, .null, .int 0, .int 0, .null, .null, .null, .int 0, .int 0]
theorem df12_ok : ∀ j, j < (fkl 12).length → defaultValue (tyTT 12 j) = vp_V df12 j
  | 0, _ => rfl
  | 1, _ => rfl
  | 2, _ => rfl
  | 3, _ => rfl
  | 4, _ => rfl
  | 5, _ => rfl
  | 6, _ => rfl
  | 7, _ => rfl
  | 8, _ => rfl
  | 9, _ => rfl
  | 10, _ => rfl
  | 11, _ => rfl
  | 12, _ => rfl
  | 13, _ => rfl
  | 14, _ => rfl
  | 15, _ => rfl
  | 16, _ => rfl
  | 17, _ => rfl
  | 18, _ => rfl
  | 19, _ => rfl
  | 20, _ => rfl
  | 21, _ => rfl
  | 22, _ => rfl
  | 23, _ => rfl
  | 24, _ => rfl
  | 25, _ => rfl
  | 26, _ => rfl
  | 27, _ => rfl
  | 28, _ => rfl
  | 29, _ => rfl
  | 30, _ => rfl
  | 31, _ => rfl
  | 32, _ => rfl
  | 33, _ => rfl
  | 34, _ => rfl
  | 35, _ => rfl
  | 36, _ => rfl
  | 37, _ => rfl
  | 38, _ => rfl
  | 39, _ => rfl
  | 40, _ => rfl
  | 41, _ => rfl
  | 42, _ => rfl
  | 43, _ => rfl
  | 44, _ => rfl
  | 45, _ => rfl
  | 46, _ => rfl
  | j + 47, h => absurd h (by have e : (fkl 12).length = 47 := rfl; omega)
theorem dTopics_0 : decode prog_11_method_1_code 0 = .ok (.aload_n 0, 1) := by decide +kernel
theorem dTopics_1 : decode prog_11_method_1_code 1 = .ok (.invokespecial 3, 3) := by decide +kernel
theorem dTopics_4 : decode prog_11_method_1_code 4 = .ok (.aload_n 0, 1) := by decide +kernel
theorem dTopics_5 : decode prog_11_method_1_code 5 = .ok (.bipush 6, 2) := by decide +kernel
theorem dTopics_7 : decode prog_11_method_1_code 7 = .ok (.newarray .long, 2) := by decide +kernel
theorem dTopics_9 : decode prog_11_method_1_code 9 = .ok (.putfield 9, 3) := by decide +kernel
theorem dTopics_12 : decode prog_11_method_1_code 12 = .ok (.aload_n 0, 1) := by decide +kernel
theorem dTopics_13 : decode prog_11_method_1_code 13 = .ok (.bipush 6, 2) := by decide +kernel
theorem dTopics_15 : decode prog_11_method_1_code 15 = .ok (.newarray .int, 2) := by decide +kernel
theorem dTopics_17 : decode prog_11_method_1_code 17 = .ok (.putfield 15, 3) := by decide +kernel
theorem dTopics_20 : decode prog_11_method_1_code 20 = .ok (.aload_n 0, 1) := by decide +kernel
theorem dTopics_21 : decode prog_11_method_1_code 21 = .ok (.bipush 6, 2) := by decide +kernel
theorem dTopics_23 : decode prog_11_method_1_code 23 = .ok (.newarray .int, 2) := by decide +kernel
theorem dTopics_25 : decode prog_11_method_1_code 25 = .ok (.putfield 19, 3) := by decide +kernel
theorem dTopics_28 : decode prog_11_method_1_code 28 = .ok (.return_, 1) := by decide +kernel
def z_Topics (cA : Nat → ClassId) (a : Nat → Nat) : va_W := [(a 0, .inr (9, [.ref (a 1), .ref (a 2), .ref (a 3), .int 0])), (a 1, .inl (cA 2, 6, .inr (.inl (fun _ => 0)))), (a 2, .inl (cA 1, 6, .inl (fun _ => 0))), (a 3, .inl (cA 1, 6, .inl (fun _ => 0)))]
set_option maxRecDepth 20000 in
theorem c_Topics (l : Launch) (D : va_G) (cA : Nat → ClassId) (N0 : Nat) (adK : Nat → Nat) (X : va_W) (h0 : Nat) : Met l (⟨"SilentTurn$Topics", "<init>", "()V"⟩ : MethodName) (wS (⟨"SilentTurn$Topics", "<init>", "()V"⟩ : MethodName) prog_11_method_1_code 1 none) { frames := 2, cells := 3, slots := 18, locals := 120 } (va_Pc (.ref h0 :: []) (PreC D cA N0 adK (X ++ [(h0, .inr (9, df9))]))) (PostC D N0 X (z_Topics cA) h0) 3 18 (AN N0) := by
  refine Met_con (by decide) rfl (Nat.le_of_ble_eq_true rfl) (fun p e s m args below meth c C hr hlk hnm => ?_)
  obtain ⟨adV, -, -, -, -, -, h6, h7, h8⟩ := id C.2.2.2.2.2.2.2
  refine n_aload C dTopics_0 0 rfl ?_
  refine n_obj C (inT (in_t1 (List.mem_of_getElem? (i := 198) rfl)) rfl) tObj dTopics_1 (Nat.le_of_ble_eq_true rfl) (Nat.le_of_ble_eq_true rfl) ?_
  refine n_aload C dTopics_4 0 rfl ?_
  refine n_bipush (v := 6) C dTopics_5 (by decide) ?_
  refine n_newa (atype := .long) (ty := .long) (N' := 6) (tk := 1) (a0 := (6, .inr (.inl (fun _ => 0)))) C (inT (in_t1 (List.mem_of_getElem? (i := 134) rfl)) rfl) rfl rfl (fun _ h => h) (fun _ => rfl) (by decide) (by decide) (by decide) (Nat.le_of_ble_eq_true rfl) (Nat.le_of_ble_eq_true rfl) dTopics_7 (fun q1 => ?_)
  refine n_putF (ci := 9) (k := 0) (f := 0) C (by decide) rfl (by decide) (inT (in_t1 (List.mem_of_getElem? (i := 199) rfl)) rfl) rfl hnm rfl rfl rfl (Nat.le_of_ble_eq_true rfl) dTopics_9 ?_
  refine n_aload C dTopics_12 0 rfl ?_
  refine n_bipush (v := 6) C dTopics_13 (by decide) ?_
  refine n_newa (atype := .int) (ty := .int) (N' := 6) (tk := 0) (a0 := (6, .inl (fun _ => 0))) C (inT (in_t1 (List.mem_of_getElem? (i := 133) rfl)) rfl) rfl rfl (fun _ h => h) (fun _ => rfl) (by decide) (by decide) (by decide) (Nat.le_of_ble_eq_true rfl) (Nat.le_of_ble_eq_true rfl) dTopics_15 (fun q2 => ?_)
  refine n_putF (ci := 9) (k := 0) (f := 1) C (by decide) rfl (by decide) (inT (in_t1 (List.mem_of_getElem? (i := 200) rfl)) rfl) rfl hnm rfl rfl rfl (Nat.le_of_ble_eq_true rfl) dTopics_17 ?_
  refine n_aload C dTopics_20 0 rfl ?_
  refine n_bipush (v := 6) C dTopics_21 (by decide) ?_
  refine n_newa (atype := .int) (ty := .int) (N' := 6) (tk := 0) (a0 := (6, .inl (fun _ => 0))) C (inT (in_t1 (List.mem_of_getElem? (i := 133) rfl)) rfl) rfl rfl (fun _ h => h) (fun _ => rfl) (by decide) (by decide) (by decide) (Nat.le_of_ble_eq_true rfl) (Nat.le_of_ble_eq_true rfl) dTopics_23 (fun q3 => ?_)
  refine n_putF (ci := 9) (k := 0) (f := 2) C (by decide) rfl (by decide) (inT (in_t1 (List.mem_of_getElem? (i := 204) rfl)) rfl) rfl hnm rfl rfl rfl (Nat.le_of_ble_eq_true rfl) dTopics_25 ?_
  refine n_ret (fun k => match k with | 0 => h0 | 1 => q1 | 2 => q2 | 3 => q3 | _ => 0) C hr hlk rfl rfl dTopics_28
theorem dMonks_0 : decode prog_8_method_1_code 0 = .ok (.aload_n 0, 1) := by decide +kernel
theorem dMonks_1 : decode prog_8_method_1_code 1 = .ok (.invokespecial 3, 3) := by decide +kernel
theorem dMonks_4 : decode prog_8_method_1_code 4 = .ok (.aload_n 0, 1) := by decide +kernel
theorem dMonks_5 : decode prog_8_method_1_code 5 = .ok (.bipush 7, 2) := by decide +kernel
theorem dMonks_7 : decode prog_8_method_1_code 7 = .ok (.newarray .long, 2) := by decide +kernel
theorem dMonks_9 : decode prog_8_method_1_code 9 = .ok (.putfield 9, 3) := by decide +kernel
theorem dMonks_12 : decode prog_8_method_1_code 12 = .ok (.aload_n 0, 1) := by decide +kernel
theorem dMonks_13 : decode prog_8_method_1_code 13 = .ok (.bipush 7, 2) := by decide +kernel
theorem dMonks_15 : decode prog_8_method_1_code 15 = .ok (.newarray .int, 2) := by decide +kernel
theorem dMonks_17 : decode prog_8_method_1_code 17 = .ok (.putfield 15, 3) := by decide +kernel
theorem dMonks_20 : decode prog_8_method_1_code 20 = .ok (.aload_n 0, 1) := by decide +kernel
theorem dMonks_21 : decode prog_8_method_1_code 21 = .ok (.bipush 7, 2) := by decide +kernel
theorem dMonks_23 : decode prog_8_method_1_code 23 = .ok (.newarray .int, 2) := by decide +kernel
theorem dMonks_25 : decode prog_8_method_1_code 25 = .ok (.putfield 19, 3) := by decide +kernel
theorem dMonks_28 : decode prog_8_method_1_code 28 = .ok (.aload_n 0, 1) := by decide +kernel
theorem dMonks_29 : decode prog_8_method_1_code 29 = .ok (.bipush 7, 2) := by decide +kernel
theorem dMonks_31 : decode prog_8_method_1_code 31 = .ok (.newarray .int, 2) := by decide +kernel
theorem dMonks_33 : decode prog_8_method_1_code 33 = .ok (.putfield 22, 3) := by decide +kernel
theorem dMonks_36 : decode prog_8_method_1_code 36 = .ok (.aload_n 0, 1) := by decide +kernel
theorem dMonks_37 : decode prog_8_method_1_code 37 = .ok (.bipush 7, 2) := by decide +kernel
theorem dMonks_39 : decode prog_8_method_1_code 39 = .ok (.newarray .int, 2) := by decide +kernel
theorem dMonks_41 : decode prog_8_method_1_code 41 = .ok (.putfield 25, 3) := by decide +kernel
theorem dMonks_44 : decode prog_8_method_1_code 44 = .ok (.aload_n 0, 1) := by decide +kernel
theorem dMonks_45 : decode prog_8_method_1_code 45 = .ok (.bipush 7, 2) := by decide +kernel
theorem dMonks_47 : decode prog_8_method_1_code 47 = .ok (.newarray .int, 2) := by decide +kernel
theorem dMonks_49 : decode prog_8_method_1_code 49 = .ok (.putfield 28, 3) := by decide +kernel
theorem dMonks_52 : decode prog_8_method_1_code 52 = .ok (.aload_n 0, 1) := by decide +kernel
theorem dMonks_53 : decode prog_8_method_1_code 53 = .ok (.bipush 7, 2) := by decide +kernel
theorem dMonks_55 : decode prog_8_method_1_code 55 = .ok (.newarray .int, 2) := by decide +kernel
theorem dMonks_57 : decode prog_8_method_1_code 57 = .ok (.putfield 31, 3) := by decide +kernel
theorem dMonks_60 : decode prog_8_method_1_code 60 = .ok (.return_, 1) := by decide +kernel
def z_Monks (cA : Nat → ClassId) (a : Nat → Nat) : va_W := [(a 0, .inr (6, [.ref (a 1), .ref (a 2), .ref (a 3), .ref (a 4), .ref (a 5), .ref (a 6), .ref (a 7), .int 0, .int 0])), (a 1, .inl (cA 2, 7, .inr (.inl (fun _ => 0)))), (a 2, .inl (cA 1, 7, .inl (fun _ => 0))), (a 3, .inl (cA 1, 7, .inl (fun _ => 0))), (a 4, .inl (cA 1, 7, .inl (fun _ => 0))), (a 5, .inl (cA 1, 7, .inl (fun _ => 0))), (a 6, .inl (cA 1, 7, .inl (fun _ => 0))), (a 7, .inl (cA 1, 7, .inl (fun _ => 0)))]
set_option maxRecDepth 20000 in
theorem c_Monks (l : Launch) (D : va_G) (cA : Nat → ClassId) (N0 : Nat) (adK : Nat → Nat) (X : va_W) (h0 : Nat) : Met l (⟨"SilentTurn$Monks", "<init>", "()V"⟩ : MethodName) (wS (⟨"SilentTurn$Monks", "<init>", "()V"⟩ : MethodName) prog_8_method_1_code 1 none) { frames := 2, cells := 7, slots := 49, locals := 120 } (va_Pc (.ref h0 :: []) (PreC D cA N0 adK (X ++ [(h0, .inr (6, df6))]))) (PostC D N0 X (z_Monks cA) h0) 7 49 (AN N0) := by
  refine Met_con (by decide) rfl (Nat.le_of_ble_eq_true rfl) (fun p e s m args below meth c C hr hlk hnm => ?_)
  obtain ⟨adV, -, -, -, -, -, h6, h7, h8⟩ := id C.2.2.2.2.2.2.2
  refine n_aload C dMonks_0 0 rfl ?_
  refine n_obj C (inT (in_t1 (List.mem_of_getElem? (i := 228) rfl)) rfl) tObj dMonks_1 (Nat.le_of_ble_eq_true rfl) (Nat.le_of_ble_eq_true rfl) ?_
  refine n_aload C dMonks_4 0 rfl ?_
  refine n_bipush (v := 7) C dMonks_5 (by decide) ?_
  refine n_newa (atype := .long) (ty := .long) (N' := 7) (tk := 1) (a0 := (7, .inr (.inl (fun _ => 0)))) C (inT (in_t1 (List.mem_of_getElem? (i := 134) rfl)) rfl) rfl rfl (fun _ h => h) (fun _ => rfl) (by decide) (by decide) (by decide) (Nat.le_of_ble_eq_true rfl) (Nat.le_of_ble_eq_true rfl) dMonks_7 (fun q1 => ?_)
  refine n_putF (ci := 6) (k := 0) (f := 0) C (by decide) rfl (by decide) (inT (in_t1 (List.mem_of_getElem? (i := 229) rfl)) rfl) rfl hnm rfl rfl rfl (Nat.le_of_ble_eq_true rfl) dMonks_9 ?_
  refine n_aload C dMonks_12 0 rfl ?_
  refine n_bipush (v := 7) C dMonks_13 (by decide) ?_
  refine n_newa (atype := .int) (ty := .int) (N' := 7) (tk := 0) (a0 := (7, .inl (fun _ => 0))) C (inT (in_t1 (List.mem_of_getElem? (i := 133) rfl)) rfl) rfl rfl (fun _ h => h) (fun _ => rfl) (by decide) (by decide) (by decide) (Nat.le_of_ble_eq_true rfl) (Nat.le_of_ble_eq_true rfl) dMonks_15 (fun q2 => ?_)
  refine n_putF (ci := 6) (k := 0) (f := 1) C (by decide) rfl (by decide) (inT (in_t1 (List.mem_of_getElem? (i := 230) rfl)) rfl) rfl hnm rfl rfl rfl (Nat.le_of_ble_eq_true rfl) dMonks_17 ?_
  refine n_aload C dMonks_20 0 rfl ?_
  refine n_bipush (v := 7) C dMonks_21 (by decide) ?_
  refine n_newa (atype := .int) (ty := .int) (N' := 7) (tk := 0) (a0 := (7, .inl (fun _ => 0))) C (inT (in_t1 (List.mem_of_getElem? (i := 133) rfl)) rfl) rfl rfl (fun _ h => h) (fun _ => rfl) (by decide) (by decide) (by decide) (Nat.le_of_ble_eq_true rfl) (Nat.le_of_ble_eq_true rfl) dMonks_23 (fun q3 => ?_)
  refine n_putF (ci := 6) (k := 0) (f := 2) C (by decide) rfl (by decide) (inT (in_t1 (List.mem_of_getElem? (i := 235) rfl)) rfl) rfl hnm rfl rfl rfl (Nat.le_of_ble_eq_true rfl) dMonks_25 ?_
  refine n_aload C dMonks_28 0 rfl ?_
  refine n_bipush (v := 7) C dMonks_29 (by decide) ?_
  refine n_newa (atype := .int) (ty := .int) (N' := 7) (tk := 0) (a0 := (7, .inl (fun _ => 0))) C (inT (in_t1 (List.mem_of_getElem? (i := 133) rfl)) rfl) rfl rfl (fun _ h => h) (fun _ => rfl) (by decide) (by decide) (by decide) (Nat.le_of_ble_eq_true rfl) (Nat.le_of_ble_eq_true rfl) dMonks_31 (fun q4 => ?_)
  refine n_putF (ci := 6) (k := 0) (f := 3) C (by decide) rfl (by decide) (inT (in_t1 (List.mem_of_getElem? (i := 237) rfl)) rfl) rfl hnm rfl rfl rfl (Nat.le_of_ble_eq_true rfl) dMonks_33 ?_
  refine n_aload C dMonks_36 0 rfl ?_
  refine n_bipush (v := 7) C dMonks_37 (by decide) ?_
  refine n_newa (atype := .int) (ty := .int) (N' := 7) (tk := 0) (a0 := (7, .inl (fun _ => 0))) C (inT (in_t1 (List.mem_of_getElem? (i := 133) rfl)) rfl) rfl rfl (fun _ h => h) (fun _ => rfl) (by decide) (by decide) (by decide) (Nat.le_of_ble_eq_true rfl) (Nat.le_of_ble_eq_true rfl) dMonks_39 (fun q5 => ?_)
  refine n_putF (ci := 6) (k := 0) (f := 4) C (by decide) rfl (by decide) (inT (in_t1 (List.mem_of_getElem? (i := 239) rfl)) rfl) rfl hnm rfl rfl rfl (Nat.le_of_ble_eq_true rfl) dMonks_41 ?_
  refine n_aload C dMonks_44 0 rfl ?_
  refine n_bipush (v := 7) C dMonks_45 (by decide) ?_
  refine n_newa (atype := .int) (ty := .int) (N' := 7) (tk := 0) (a0 := (7, .inl (fun _ => 0))) C (inT (in_t1 (List.mem_of_getElem? (i := 133) rfl)) rfl) rfl rfl (fun _ h => h) (fun _ => rfl) (by decide) (by decide) (by decide) (Nat.le_of_ble_eq_true rfl) (Nat.le_of_ble_eq_true rfl) dMonks_47 (fun q6 => ?_)
  refine n_putF (ci := 6) (k := 0) (f := 5) C (by decide) rfl (by decide) (inT (in_t2 (List.mem_of_getElem? (i := 2) rfl)) rfl) rfl hnm rfl rfl rfl (Nat.le_of_ble_eq_true rfl) dMonks_49 ?_
  refine n_aload C dMonks_52 0 rfl ?_
  refine n_bipush (v := 7) C dMonks_53 (by decide) ?_
  refine n_newa (atype := .int) (ty := .int) (N' := 7) (tk := 0) (a0 := (7, .inl (fun _ => 0))) C (inT (in_t1 (List.mem_of_getElem? (i := 133) rfl)) rfl) rfl rfl (fun _ h => h) (fun _ => rfl) (by decide) (by decide) (by decide) (Nat.le_of_ble_eq_true rfl) (Nat.le_of_ble_eq_true rfl) dMonks_55 (fun q7 => ?_)
  refine n_putF (ci := 6) (k := 0) (f := 6) C (by decide) rfl (by decide) (inT (in_t2 (List.mem_of_getElem? (i := 5) rfl)) rfl) rfl hnm rfl rfl rfl (Nat.le_of_ble_eq_true rfl) dMonks_57 ?_
  refine n_ret (fun k => match k with | 0 => h0 | 1 => q1 | 2 => q2 | 3 => q3 | 4 => q4 | 5 => q5 | 6 => q6 | 7 => q7 | _ => 0) C hr hlk rfl rfl dMonks_60
theorem dHouse_0 : decode prog_5_method_1_code 0 = .ok (.aload_n 0, 1) := by decide +kernel
theorem dHouse_1 : decode prog_5_method_1_code 1 = .ok (.invokespecial 3, 3) := by decide +kernel
theorem dHouse_4 : decode prog_5_method_1_code 4 = .ok (.aload_n 0, 1) := by decide +kernel
theorem dHouse_5 : decode prog_5_method_1_code 5 = .ok (.new 9, 3) := by decide +kernel
theorem dHouse_8 : decode prog_5_method_1_code 8 = .ok (.dup, 1) := by decide +kernel
theorem dHouse_9 : decode prog_5_method_1_code 9 = .ok (.invokespecial 11, 3) := by decide +kernel
theorem dHouse_12 : decode prog_5_method_1_code 12 = .ok (.putfield 12, 3) := by decide +kernel
theorem dHouse_15 : decode prog_5_method_1_code 15 = .ok (.aload_n 0, 1) := by decide +kernel
theorem dHouse_16 : decode prog_5_method_1_code 16 = .ok (.new 18, 3) := by decide +kernel
theorem dHouse_19 : decode prog_5_method_1_code 19 = .ok (.dup, 1) := by decide +kernel
theorem dHouse_20 : decode prog_5_method_1_code 20 = .ok (.invokespecial 20, 3) := by decide +kernel
theorem dHouse_23 : decode prog_5_method_1_code 23 = .ok (.putfield 21, 3) := by decide +kernel
theorem dHouse_26 : decode prog_5_method_1_code 26 = .ok (.aload_n 0, 1) := by decide +kernel
theorem dHouse_27 : decode prog_5_method_1_code 27 = .ok (.bipush 12, 2) := by decide +kernel
theorem dHouse_29 : decode prog_5_method_1_code 29 = .ok (.newarray .int, 2) := by decide +kernel
theorem dHouse_31 : decode prog_5_method_1_code 31 = .ok (.putfield 25, 3) := by decide +kernel
theorem dHouse_34 : decode prog_5_method_1_code 34 = .ok (.aload_n 0, 1) := by decide +kernel
theorem dHouse_35 : decode prog_5_method_1_code 35 = .ok (.bipush 12, 2) := by decide +kernel
theorem dHouse_37 : decode prog_5_method_1_code 37 = .ok (.newarray .int, 2) := by decide +kernel
theorem dHouse_39 : decode prog_5_method_1_code 39 = .ok (.putfield 29, 3) := by decide +kernel
theorem dHouse_42 : decode prog_5_method_1_code 42 = .ok (.aload_n 0, 1) := by decide +kernel
theorem dHouse_43 : decode prog_5_method_1_code 43 = .ok (.bipush 10, 2) := by decide +kernel
theorem dHouse_45 : decode prog_5_method_1_code 45 = .ok (.putfield 32, 3) := by decide +kernel
theorem dHouse_48 : decode prog_5_method_1_code 48 = .ok (.aload_n 0, 1) := by decide +kernel
theorem dHouse_49 : decode prog_5_method_1_code 49 = .ok (.iconst 1, 1) := by decide +kernel
theorem dHouse_50 : decode prog_5_method_1_code 50 = .ok (.putfield 36, 3) := by decide +kernel
theorem dHouse_53 : decode prog_5_method_1_code 53 = .ok (.aload_n 0, 1) := by decide +kernel
theorem dHouse_54 : decode prog_5_method_1_code 54 = .ok (.iconst (-1), 1) := by decide +kernel
theorem dHouse_55 : decode prog_5_method_1_code 55 = .ok (.putfield 39, 3) := by decide +kernel
theorem dHouse_58 : decode prog_5_method_1_code 58 = .ok (.return_, 1) := by decide +kernel
def z_House (cA : Nat → ClassId) (a : Nat → Nat) : va_W := [(a 0, .inr (3, [.ref (a 1), .ref (a 5), .ref (a 13), .ref (a 14), .int 0, .int 10, .int 1, .int 0, .int 0, .int 0, .int 0, .int (-1)])), (a 1, .inr (9, [.ref (a 2), .ref (a 3), .ref (a 4), .int 0])), (a 2, .inl (cA 2, 6, .inr (.inl (fun _ => 0)))), (a 3, .inl (cA 1, 6, .inl (fun _ => 0))), (a 4, .inl (cA 1, 6, .inl (fun _ => 0))), (a 5, .inr (6, [.ref (a 6), .ref (a 7), .ref (a 8), .ref (a 9), .ref (a 10), .ref (a 11), .ref (a 12), .int 0, .int 0])), (a 6, .inl (cA 2, 7, .inr (.inl (fun _ => 0)))), (a 7, .inl (cA 1, 7, .inl (fun _ => 0))), (a 8, .inl (cA 1, 7, .inl (fun _ => 0))), (a 9, .inl (cA 1, 7, .inl (fun _ => 0))), (a 10, .inl (cA 1, 7, .inl (fun _ => 0))), (a 11, .inl (cA 1, 7, .inl (fun _ => 0))), (a 12, .inl (cA 1, 7, .inl (fun _ => 0))), (a 13, .inl (cA 1, 12, .inl (fun _ => 0))), (a 14, .inl (cA 1, 12, .inl (fun _ => 0)))]
set_option maxRecDepth 20000 in
theorem c_House (l : Launch) (D : va_G) (cA : Nat → ClassId) (N0 : Nat) (adK : Nat → Nat) (X : va_W) (h0 : Nat) : Met l (⟨"SilentTurn$House", "<init>", "()V"⟩ : MethodName) (wS (⟨"SilentTurn$House", "<init>", "()V"⟩ : MethodName) prog_5_method_1_code 1 none) { frames := 3, cells := 14, slots := 104, locals := 180 } (va_Pc (.ref h0 :: []) (PreC D cA N0 adK (X ++ [(h0, .inr (3, df3))]))) (PostC D N0 X (z_House cA) h0) 14 104 (AN N0) := by
  refine Met_con (by decide) rfl (Nat.le_of_ble_eq_true rfl) (fun p e s m args below meth c C hr hlk hnm => ?_)
  obtain ⟨adV, -, -, -, -, -, h6, h7, h8⟩ := id C.2.2.2.2.2.2.2
  refine n_aload C dHouse_0 0 rfl ?_
  refine n_obj C (inT (in_t1 (List.mem_of_getElem? (i := 192) rfl)) rfl) tObj dHouse_1 (Nat.le_of_ble_eq_true rfl) (Nat.le_of_ble_eq_true rfl) ?_
  refine n_aload C dHouse_4 0 rfl ?_
  refine n_new (ci := 9) (fs := df9) C (by decide) (inT (in_t1 (List.mem_of_getElem? (i := 193) rfl)) rfl) (inT (in_t1 (List.mem_of_getElem? (i := 194) rfl)) rfl) (inT (in_t1 (List.mem_of_getElem? (i := 11) rfl)) rfl) df9_ok (Nat.le_of_ble_eq_true rfl) (Nat.le_of_ble_eq_true rfl) dHouse_5 (fun q1 => ?_)
  refine n_dup C dHouse_8 rfl ?_
  refine n_init (n := 0) (As := []) (st := [.ref q1, .ref h0]) C (c_Topics l D cA N0 adK _ q1) (inT (in_t1 (List.mem_of_getElem? (i := 197) rfl)) rfl) (inT (in_t1 (List.mem_of_getElem? (i := 11) rfl)) rfl) (Or.inr (List.mem_of_getElem? (i := 1) rfl)) (inT (in_t1 (List.mem_of_getElem? (i := 196) rfl)) rfl) rfl (by decide +kernel) rfl ⟨Nat.le_of_ble_eq_true rfl, Nat.le_of_ble_eq_true rfl⟩ (Nat.le_of_ble_eq_true rfl) dHouse_9 ⟨Nat.le_of_ble_eq_true rfl, Nat.le_of_ble_eq_true rfl⟩ (fun a1 ea1 => ?_)
  subst ea1
  refine n_putF (ci := 3) (k := 0) (f := 0) C (by decide) rfl (by decide) (inT (in_t2 (List.mem_of_getElem? (i := 36) rfl)) rfl) rfl hnm rfl rfl rfl (Nat.le_of_ble_eq_true rfl) dHouse_12 ?_
  refine n_aload C dHouse_15 0 rfl ?_
  refine n_new (ci := 6) (fs := df6) C (by decide) (inT (in_t1 (List.mem_of_getElem? (i := 223) rfl)) rfl) (inT (in_t1 (List.mem_of_getElem? (i := 224) rfl)) rfl) (inT (in_t1 (List.mem_of_getElem? (i := 12) rfl)) rfl) df6_ok (Nat.le_of_ble_eq_true rfl) (Nat.le_of_ble_eq_true rfl) dHouse_16 (fun q2 => ?_)
  refine n_dup C dHouse_19 rfl ?_
  refine n_init (n := 0) (As := []) (st := [.ref q2, .ref h0]) C (c_Monks l D cA N0 adK _ q2) (inT (in_t1 (List.mem_of_getElem? (i := 227) rfl)) rfl) (inT (in_t1 (List.mem_of_getElem? (i := 12) rfl)) rfl) (Or.inr (List.mem_of_getElem? (i := 2) rfl)) (inT (in_t1 (List.mem_of_getElem? (i := 226) rfl)) rfl) rfl (by decide +kernel) rfl ⟨Nat.le_of_ble_eq_true rfl, Nat.le_of_ble_eq_true rfl⟩ (Nat.le_of_ble_eq_true rfl) dHouse_20 ⟨Nat.le_of_ble_eq_true rfl, Nat.le_of_ble_eq_true rfl⟩ (fun a2 ea2 => ?_)
  subst ea2
  refine n_putF (ci := 3) (k := 0) (f := 1) C (by decide) rfl (by decide) (inT (in_t2 (List.mem_of_getElem? (i := 41) rfl)) rfl) rfl hnm rfl rfl rfl (Nat.le_of_ble_eq_true rfl) dHouse_23 ?_
  refine n_aload C dHouse_26 0 rfl ?_
  refine n_bipush (v := 12) C dHouse_27 (by decide) ?_
  refine n_newa (atype := .int) (ty := .int) (N' := 12) (tk := 0) (a0 := (12, .inl (fun _ => 0))) C (inT (in_t1 (List.mem_of_getElem? (i := 133) rfl)) rfl) rfl rfl (fun _ h => h) (fun _ => rfl) (by decide) (by decide) (by decide) (Nat.le_of_ble_eq_true rfl) (Nat.le_of_ble_eq_true rfl) dHouse_29 (fun q3 => ?_)
  refine n_putF (ci := 3) (k := 0) (f := 2) C (by decide) rfl (by decide) (inT (in_t2 (List.mem_of_getElem? (i := 47) rfl)) rfl) rfl hnm rfl rfl rfl (Nat.le_of_ble_eq_true rfl) dHouse_31 ?_
  refine n_aload C dHouse_34 0 rfl ?_
  refine n_bipush (v := 12) C dHouse_35 (by decide) ?_
  refine n_newa (atype := .int) (ty := .int) (N' := 12) (tk := 0) (a0 := (12, .inl (fun _ => 0))) C (inT (in_t1 (List.mem_of_getElem? (i := 133) rfl)) rfl) rfl rfl (fun _ h => h) (fun _ => rfl) (by decide) (by decide) (by decide) (Nat.le_of_ble_eq_true rfl) (Nat.le_of_ble_eq_true rfl) dHouse_37 (fun q4 => ?_)
  refine n_putF (ci := 3) (k := 0) (f := 3) C (by decide) rfl (by decide) (inT (in_t2 (List.mem_of_getElem? (i := 49) rfl)) rfl) rfl hnm rfl rfl rfl (Nat.le_of_ble_eq_true rfl) dHouse_39 ?_
  refine n_aload C dHouse_42 0 rfl ?_
  refine n_bipush (v := 10) C dHouse_43 (by decide) ?_
  refine n_put (ci := 3) (k := 0) (f := 5) C (by decide) rfl (by decide) (inT (in_t2 (List.mem_of_getElem? (i := 54) rfl)) rfl) rfl rfl rfl (Nat.le_of_ble_eq_true rfl) dHouse_45 ?_
  refine n_aload C dHouse_48 0 rfl ?_
  refine n_iconst (v := 1) C dHouse_49 (by decide) ?_
  refine n_put (ci := 3) (k := 0) (f := 6) C (by decide) rfl (by decide) (inT (in_t2 (List.mem_of_getElem? (i := 57) rfl)) rfl) rfl rfl rfl (Nat.le_of_ble_eq_true rfl) dHouse_50 ?_
  refine n_aload C dHouse_53 0 rfl ?_
  refine n_iconst (v := -1) C dHouse_54 (by decide) ?_
  refine n_put (ci := 3) (k := 0) (f := 11) C (by decide) rfl (by decide) (inT (in_t2 (List.mem_of_getElem? (i := 72) rfl)) rfl) rfl rfl rfl (Nat.le_of_ble_eq_true rfl) dHouse_55 ?_
  refine n_ret (fun k => match k with | 0 => h0 | 1 => (a1 0) | 2 => (a1 1) | 3 => (a1 2) | 4 => (a1 3) | 5 => (a2 0) | 6 => (a2 1) | 7 => (a2 2) | 8 => (a2 3) | 9 => (a2 4) | 10 => (a2 5) | 11 => (a2 6) | 12 => (a2 7) | 13 => q3 | 14 => q4 | _ => 0) C hr hlk rfl rfl dHouse_58
theorem dDays_0 : decode prog_3_method_1_code 0 = .ok (.aload_n 0, 1) := by decide +kernel
theorem dDays_1 : decode prog_3_method_1_code 1 = .ok (.invokespecial 3, 3) := by decide +kernel
theorem dDays_4 : decode prog_3_method_1_code 4 = .ok (.aload_n 0, 1) := by decide +kernel
theorem dDays_5 : decode prog_3_method_1_code 5 = .ok (.bipush 60, 2) := by decide +kernel
theorem dDays_7 : decode prog_3_method_1_code 7 = .ok (.newarray .int, 2) := by decide +kernel
theorem dDays_9 : decode prog_3_method_1_code 9 = .ok (.putfield 11, 3) := by decide +kernel
theorem dDays_12 : decode prog_3_method_1_code 12 = .ok (.aload_n 0, 1) := by decide +kernel
theorem dDays_13 : decode prog_3_method_1_code 13 = .ok (.bipush 60, 2) := by decide +kernel
theorem dDays_15 : decode prog_3_method_1_code 15 = .ok (.newarray .int, 2) := by decide +kernel
theorem dDays_17 : decode prog_3_method_1_code 17 = .ok (.putfield 15, 3) := by decide +kernel
theorem dDays_20 : decode prog_3_method_1_code 20 = .ok (.aload_n 0, 1) := by decide +kernel
theorem dDays_21 : decode prog_3_method_1_code 21 = .ok (.bipush 60, 2) := by decide +kernel
theorem dDays_23 : decode prog_3_method_1_code 23 = .ok (.newarray .int, 2) := by decide +kernel
theorem dDays_25 : decode prog_3_method_1_code 25 = .ok (.putfield 18, 3) := by decide +kernel
theorem dDays_28 : decode prog_3_method_1_code 28 = .ok (.aload_n 0, 1) := by decide +kernel
theorem dDays_29 : decode prog_3_method_1_code 29 = .ok (.bipush 60, 2) := by decide +kernel
theorem dDays_31 : decode prog_3_method_1_code 31 = .ok (.newarray .int, 2) := by decide +kernel
theorem dDays_33 : decode prog_3_method_1_code 33 = .ok (.putfield 21, 3) := by decide +kernel
theorem dDays_36 : decode prog_3_method_1_code 36 = .ok (.aload_n 0, 1) := by decide +kernel
theorem dDays_37 : decode prog_3_method_1_code 37 = .ok (.bipush 60, 2) := by decide +kernel
theorem dDays_39 : decode prog_3_method_1_code 39 = .ok (.newarray .int, 2) := by decide +kernel
theorem dDays_41 : decode prog_3_method_1_code 41 = .ok (.putfield 24, 3) := by decide +kernel
theorem dDays_44 : decode prog_3_method_1_code 44 = .ok (.aload_n 0, 1) := by decide +kernel
theorem dDays_45 : decode prog_3_method_1_code 45 = .ok (.bipush 60, 2) := by decide +kernel
theorem dDays_47 : decode prog_3_method_1_code 47 = .ok (.newarray .int, 2) := by decide +kernel
theorem dDays_49 : decode prog_3_method_1_code 49 = .ok (.putfield 27, 3) := by decide +kernel
theorem dDays_52 : decode prog_3_method_1_code 52 = .ok (.return_, 1) := by decide +kernel
def z_Days (cA : Nat → ClassId) (a : Nat → Nat) : va_W := [(a 0, .inr (1, [.ref (a 1), .ref (a 2), .ref (a 3), .ref (a 4), .ref (a 5), .ref (a 6), .int 0, .int 0, .int 0])), (a 1, .inl (cA 1, 60, .inl (fun _ => 0))), (a 2, .inl (cA 1, 60, .inl (fun _ => 0))), (a 3, .inl (cA 1, 60, .inl (fun _ => 0))), (a 4, .inl (cA 1, 60, .inl (fun _ => 0))), (a 5, .inl (cA 1, 60, .inl (fun _ => 0))), (a 6, .inl (cA 1, 60, .inl (fun _ => 0)))]
set_option maxRecDepth 20000 in
theorem c_Days (l : Launch) (D : va_G) (cA : Nat → ClassId) (N0 : Nat) (adK : Nat → Nat) (X : va_W) (h0 : Nat) : Met l (⟨"SilentTurn$Days", "<init>", "()V"⟩ : MethodName) (wS (⟨"SilentTurn$Days", "<init>", "()V"⟩ : MethodName) prog_3_method_1_code 1 none) { frames := 2, cells := 6, slots := 360, locals := 120 } (va_Pc (.ref h0 :: []) (PreC D cA N0 adK (X ++ [(h0, .inr (1, df1))]))) (PostC D N0 X (z_Days cA) h0) 6 360 (AN N0) := by
  refine Met_con (by decide) rfl (Nat.le_of_ble_eq_true rfl) (fun p e s m args below meth c C hr hlk hnm => ?_)
  obtain ⟨adV, -, -, -, -, -, h6, h7, h8⟩ := id C.2.2.2.2.2.2.2
  refine n_aload C dDays_0 0 rfl ?_
  refine n_obj C (inT (in_t2 (List.mem_of_getElem? (i := 197) rfl)) rfl) tObj dDays_1 (Nat.le_of_ble_eq_true rfl) (Nat.le_of_ble_eq_true rfl) ?_
  refine n_aload C dDays_4 0 rfl ?_
  refine n_bipush (v := 60) C dDays_5 (by decide) ?_
  refine n_newa (atype := .int) (ty := .int) (N' := 60) (tk := 0) (a0 := (60, .inl (fun _ => 0))) C (inT (in_t1 (List.mem_of_getElem? (i := 133) rfl)) rfl) rfl rfl (fun _ h => h) (fun _ => rfl) (by decide) (by decide) (by decide) (Nat.le_of_ble_eq_true rfl) (Nat.le_of_ble_eq_true rfl) dDays_7 (fun q1 => ?_)
  refine n_putF (ci := 1) (k := 0) (f := 0) C (by decide) rfl (by decide) (inT (in_t2 (List.mem_of_getElem? (i := 198) rfl)) rfl) rfl hnm rfl rfl rfl (Nat.le_of_ble_eq_true rfl) dDays_9 ?_
  refine n_aload C dDays_12 0 rfl ?_
  refine n_bipush (v := 60) C dDays_13 (by decide) ?_
  refine n_newa (atype := .int) (ty := .int) (N' := 60) (tk := 0) (a0 := (60, .inl (fun _ => 0))) C (inT (in_t1 (List.mem_of_getElem? (i := 133) rfl)) rfl) rfl rfl (fun _ h => h) (fun _ => rfl) (by decide) (by decide) (by decide) (Nat.le_of_ble_eq_true rfl) (Nat.le_of_ble_eq_true rfl) dDays_15 (fun q2 => ?_)
  refine n_putF (ci := 1) (k := 0) (f := 1) C (by decide) rfl (by decide) (inT (in_t2 (List.mem_of_getElem? (i := 200) rfl)) rfl) rfl hnm rfl rfl rfl (Nat.le_of_ble_eq_true rfl) dDays_17 ?_
  refine n_aload C dDays_20 0 rfl ?_
  refine n_bipush (v := 60) C dDays_21 (by decide) ?_
  refine n_newa (atype := .int) (ty := .int) (N' := 60) (tk := 0) (a0 := (60, .inl (fun _ => 0))) C (inT (in_t1 (List.mem_of_getElem? (i := 133) rfl)) rfl) rfl rfl (fun _ h => h) (fun _ => rfl) (by decide) (by decide) (by decide) (Nat.le_of_ble_eq_true rfl) (Nat.le_of_ble_eq_true rfl) dDays_23 (fun q3 => ?_)
  refine n_putF (ci := 1) (k := 0) (f := 2) C (by decide) rfl (by decide) (inT (in_t2 (List.mem_of_getElem? (i := 203) rfl)) rfl) rfl hnm rfl rfl rfl (Nat.le_of_ble_eq_true rfl) dDays_25 ?_
  refine n_aload C dDays_28 0 rfl ?_
  refine n_bipush (v := 60) C dDays_29 (by decide) ?_
  refine n_newa (atype := .int) (ty := .int) (N' := 60) (tk := 0) (a0 := (60, .inl (fun _ => 0))) C (inT (in_t1 (List.mem_of_getElem? (i := 133) rfl)) rfl) rfl rfl (fun _ h => h) (fun _ => rfl) (by decide) (by decide) (by decide) (Nat.le_of_ble_eq_true rfl) (Nat.le_of_ble_eq_true rfl) dDays_31 (fun q4 => ?_)
  refine n_putF (ci := 1) (k := 0) (f := 3) C (by decide) rfl (by decide) (inT (in_t2 (List.mem_of_getElem? (i := 206) rfl)) rfl) rfl hnm rfl rfl rfl (Nat.le_of_ble_eq_true rfl) dDays_33 ?_
  refine n_aload C dDays_36 0 rfl ?_
  refine n_bipush (v := 60) C dDays_37 (by decide) ?_
  refine n_newa (atype := .int) (ty := .int) (N' := 60) (tk := 0) (a0 := (60, .inl (fun _ => 0))) C (inT (in_t1 (List.mem_of_getElem? (i := 133) rfl)) rfl) rfl rfl (fun _ h => h) (fun _ => rfl) (by decide) (by decide) (by decide) (Nat.le_of_ble_eq_true rfl) (Nat.le_of_ble_eq_true rfl) dDays_39 (fun q5 => ?_)
  refine n_putF (ci := 1) (k := 0) (f := 4) C (by decide) rfl (by decide) (inT (in_t2 (List.mem_of_getElem? (i := 209) rfl)) rfl) rfl hnm rfl rfl rfl (Nat.le_of_ble_eq_true rfl) dDays_41 ?_
  refine n_aload C dDays_44 0 rfl ?_
  refine n_bipush (v := 60) C dDays_45 (by decide) ?_
  refine n_newa (atype := .int) (ty := .int) (N' := 60) (tk := 0) (a0 := (60, .inl (fun _ => 0))) C (inT (in_t1 (List.mem_of_getElem? (i := 133) rfl)) rfl) rfl rfl (fun _ h => h) (fun _ => rfl) (by decide) (by decide) (by decide) (Nat.le_of_ble_eq_true rfl) (Nat.le_of_ble_eq_true rfl) dDays_47 (fun q6 => ?_)
  refine n_putF (ci := 1) (k := 0) (f := 5) C (by decide) rfl (by decide) (inT (in_t2 (List.mem_of_getElem? (i := 212) rfl)) rfl) rfl hnm rfl rfl rfl (Nat.le_of_ble_eq_true rfl) dDays_49 ?_
  refine n_ret (fun k => match k with | 0 => h0 | 1 => q1 | 2 => q2 | 3 => q3 | 4 => q4 | 5 => q5 | 6 => q6 | _ => 0) C hr hlk rfl rfl dDays_52
theorem dTray_0 : decode prog_12_method_1_code 0 = .ok (.aload_n 0, 1) := by decide +kernel
theorem dTray_1 : decode prog_12_method_1_code 1 = .ok (.invokespecial 3, 3) := by decide +kernel
theorem dTray_4 : decode prog_12_method_1_code 4 = .ok (.aload_n 0, 1) := by decide +kernel
theorem dTray_5 : decode prog_12_method_1_code 5 = .ok (.bipush 60, 2) := by decide +kernel
theorem dTray_7 : decode prog_12_method_1_code 7 = .ok (.newarray .long, 2) := by decide +kernel
theorem dTray_9 : decode prog_12_method_1_code 9 = .ok (.putfield 9, 3) := by decide +kernel
theorem dTray_12 : decode prog_12_method_1_code 12 = .ok (.return_, 1) := by decide +kernel
def z_Tray (cA : Nat → ClassId) (a : Nat → Nat) : va_W := [(a 0, .inr (10, [.ref (a 1), .int 0, .int 0, .int 0])), (a 1, .inl (cA 2, 60, .inr (.inl (fun _ => 0))))]
set_option maxRecDepth 20000 in
theorem c_Tray (l : Launch) (D : va_G) (cA : Nat → ClassId) (N0 : Nat) (adK : Nat → Nat) (X : va_W) (h0 : Nat) : Met l (⟨"SilentTurn$Tray", "<init>", "()V"⟩ : MethodName) (wS (⟨"SilentTurn$Tray", "<init>", "()V"⟩ : MethodName) prog_12_method_1_code 1 none) { frames := 2, cells := 1, slots := 60, locals := 120 } (va_Pc (.ref h0 :: []) (PreC D cA N0 adK (X ++ [(h0, .inr (10, df10))]))) (PostC D N0 X (z_Tray cA) h0) 1 60 (AN N0) := by
  refine Met_con (by decide) rfl (Nat.le_of_ble_eq_true rfl) (fun p e s m args below meth c C hr hlk hnm => ?_)
  obtain ⟨adV, -, -, -, -, -, h6, h7, h8⟩ := id C.2.2.2.2.2.2.2
  refine n_aload C dTray_0 0 rfl ?_
  refine n_obj C (inT (in_t3 (List.mem_of_getElem? (i := 6) rfl)) rfl) tObj dTray_1 (Nat.le_of_ble_eq_true rfl) (Nat.le_of_ble_eq_true rfl) ?_
  refine n_aload C dTray_4 0 rfl ?_
  refine n_bipush (v := 60) C dTray_5 (by decide) ?_
  refine n_newa (atype := .long) (ty := .long) (N' := 60) (tk := 1) (a0 := (60, .inr (.inl (fun _ => 0)))) C (inT (in_t1 (List.mem_of_getElem? (i := 134) rfl)) rfl) rfl rfl (fun _ h => h) (fun _ => rfl) (by decide) (by decide) (by decide) (Nat.le_of_ble_eq_true rfl) (Nat.le_of_ble_eq_true rfl) dTray_7 (fun q1 => ?_)
  refine n_putF (ci := 10) (k := 0) (f := 0) C (by decide) rfl (by decide) (inT (in_t3 (List.mem_of_getElem? (i := 7) rfl)) rfl) rfl hnm rfl rfl rfl (Nat.le_of_ble_eq_true rfl) dTray_9 ?_
  refine n_ret (fun k => match k with | 0 => h0 | 1 => q1 | _ => 0) C hr hlk rfl rfl dTray_12
theorem dTalk_0 : decode prog_9_method_1_code 0 = .ok (.aload_n 0, 1) := by decide +kernel
theorem dTalk_1 : decode prog_9_method_1_code 1 = .ok (.invokespecial 3, 3) := by decide +kernel
theorem dTalk_4 : decode prog_9_method_1_code 4 = .ok (.aload_n 0, 1) := by decide +kernel
theorem dTalk_5 : decode prog_9_method_1_code 5 = .ok (.bipush 6, 2) := by decide +kernel
theorem dTalk_7 : decode prog_9_method_1_code 7 = .ok (.newarray .int, 2) := by decide +kernel
theorem dTalk_9 : decode prog_9_method_1_code 9 = .ok (.putfield 9, 3) := by decide +kernel
theorem dTalk_12 : decode prog_9_method_1_code 12 = .ok (.aload_n 0, 1) := by decide +kernel
theorem dTalk_13 : decode prog_9_method_1_code 13 = .ok (.bipush 6, 2) := by decide +kernel
theorem dTalk_15 : decode prog_9_method_1_code 15 = .ok (.newarray .int, 2) := by decide +kernel
theorem dTalk_17 : decode prog_9_method_1_code 17 = .ok (.putfield 15, 3) := by decide +kernel
theorem dTalk_20 : decode prog_9_method_1_code 20 = .ok (.return_, 1) := by decide +kernel
def z_Talk (cA : Nat → ClassId) (a : Nat → Nat) : va_W := [(a 0, .inr (7, [.ref (a 1), .ref (a 2), .int 0])), (a 1, .inl (cA 1, 6, .inl (fun _ => 0))), (a 2, .inl (cA 1, 6, .inl (fun _ => 0)))]
set_option maxRecDepth 20000 in
theorem c_Talk (l : Launch) (D : va_G) (cA : Nat → ClassId) (N0 : Nat) (adK : Nat → Nat) (X : va_W) (h0 : Nat) : Met l (⟨"SilentTurn$Talk", "<init>", "()V"⟩ : MethodName) (wS (⟨"SilentTurn$Talk", "<init>", "()V"⟩ : MethodName) prog_9_method_1_code 1 none) { frames := 2, cells := 2, slots := 12, locals := 120 } (va_Pc (.ref h0 :: []) (PreC D cA N0 adK (X ++ [(h0, .inr (7, df7))]))) (PostC D N0 X (z_Talk cA) h0) 2 12 (AN N0) := by
  refine Met_con (by decide) rfl (Nat.le_of_ble_eq_true rfl) (fun p e s m args below meth c C hr hlk hnm => ?_)
  obtain ⟨adV, -, -, -, -, -, h6, h7, h8⟩ := id C.2.2.2.2.2.2.2
  refine n_aload C dTalk_0 0 rfl ?_
  refine n_obj C (inT (in_t2 (List.mem_of_getElem? (i := 132) rfl)) rfl) tObj dTalk_1 (Nat.le_of_ble_eq_true rfl) (Nat.le_of_ble_eq_true rfl) ?_
  refine n_aload C dTalk_4 0 rfl ?_
  refine n_bipush (v := 6) C dTalk_5 (by decide) ?_
  refine n_newa (atype := .int) (ty := .int) (N' := 6) (tk := 0) (a0 := (6, .inl (fun _ => 0))) C (inT (in_t1 (List.mem_of_getElem? (i := 133) rfl)) rfl) rfl rfl (fun _ h => h) (fun _ => rfl) (by decide) (by decide) (by decide) (Nat.le_of_ble_eq_true rfl) (Nat.le_of_ble_eq_true rfl) dTalk_7 (fun q1 => ?_)
  refine n_putF (ci := 7) (k := 0) (f := 0) C (by decide) rfl (by decide) (inT (in_t2 (List.mem_of_getElem? (i := 133) rfl)) rfl) rfl hnm rfl rfl rfl (Nat.le_of_ble_eq_true rfl) dTalk_9 ?_
  refine n_aload C dTalk_12 0 rfl ?_
  refine n_bipush (v := 6) C dTalk_13 (by decide) ?_
  refine n_newa (atype := .int) (ty := .int) (N' := 6) (tk := 0) (a0 := (6, .inl (fun _ => 0))) C (inT (in_t1 (List.mem_of_getElem? (i := 133) rfl)) rfl) rfl rfl (fun _ h => h) (fun _ => rfl) (by decide) (by decide) (by decide) (Nat.le_of_ble_eq_true rfl) (Nat.le_of_ble_eq_true rfl) dTalk_15 (fun q2 => ?_)
  refine n_putF (ci := 7) (k := 0) (f := 1) C (by decide) rfl (by decide) (inT (in_t2 (List.mem_of_getElem? (i := 135) rfl)) rfl) rfl hnm rfl rfl rfl (Nat.le_of_ble_eq_true rfl) dTalk_17 ?_
  refine n_ret (fun k => match k with | 0 => h0 | 1 => q1 | 2 => q2 | _ => 0) C hr hlk rfl rfl dTalk_20
theorem dLife_0 : decode prog_7_method_1_code 0 = .ok (.aload_n 0, 1) := by decide +kernel
theorem dLife_1 : decode prog_7_method_1_code 1 = .ok (.invokespecial 3, 3) := by decide +kernel
theorem dLife_4 : decode prog_7_method_1_code 4 = .ok (.aload_n 0, 1) := by decide +kernel
theorem dLife_5 : decode prog_7_method_1_code 5 = .ok (.bipush 60, 2) := by decide +kernel
theorem dLife_7 : decode prog_7_method_1_code 7 = .ok (.newarray .int, 2) := by decide +kernel
theorem dLife_9 : decode prog_7_method_1_code 9 = .ok (.putfield 9, 3) := by decide +kernel
theorem dLife_12 : decode prog_7_method_1_code 12 = .ok (.return_, 1) := by decide +kernel
def z_Life (cA : Nat → ClassId) (a : Nat → Nat) : va_W := [(a 0, .inr (5, [.ref (a 1), .null, .null, .int 0, .int 0, .int 0, .int 0, .int 0, .int 0, .int 0, .int 0])), (a 1, .inl (cA 1, 60, .inl (fun _ => 0)))]
set_option maxRecDepth 20000 in
theorem c_Life (l : Launch) (D : va_G) (cA : Nat → ClassId) (N0 : Nat) (adK : Nat → Nat) (X : va_W) (h0 : Nat) : Met l (⟨"SilentTurn$Life", "<init>", "()V"⟩ : MethodName) (wS (⟨"SilentTurn$Life", "<init>", "()V"⟩ : MethodName) prog_7_method_1_code 1 none) { frames := 2, cells := 1, slots := 60, locals := 120 } (va_Pc (.ref h0 :: []) (PreC D cA N0 adK (X ++ [(h0, .inr (5, df5))]))) (PostC D N0 X (z_Life cA) h0) 1 60 (AN N0) := by
  refine Met_con (by decide) rfl (Nat.le_of_ble_eq_true rfl) (fun p e s m args below meth c C hr hlk hnm => ?_)
  obtain ⟨adV, -, -, -, -, -, h6, h7, h8⟩ := id C.2.2.2.2.2.2.2
  refine n_aload C dLife_0 0 rfl ?_
  refine n_obj C (inT (in_t2 (List.mem_of_getElem? (i := 150) rfl)) rfl) tObj dLife_1 (Nat.le_of_ble_eq_true rfl) (Nat.le_of_ble_eq_true rfl) ?_
  refine n_aload C dLife_4 0 rfl ?_
  refine n_bipush (v := 60) C dLife_5 (by decide) ?_
  refine n_newa (atype := .int) (ty := .int) (N' := 60) (tk := 0) (a0 := (60, .inl (fun _ => 0))) C (inT (in_t1 (List.mem_of_getElem? (i := 133) rfl)) rfl) rfl rfl (fun _ h => h) (fun _ => rfl) (by decide) (by decide) (by decide) (Nat.le_of_ble_eq_true rfl) (Nat.le_of_ble_eq_true rfl) dLife_7 (fun q1 => ?_)
  refine n_putF (ci := 5) (k := 0) (f := 0) C (by decide) rfl (by decide) (inT (in_t2 (List.mem_of_getElem? (i := 151) rfl)) rfl) rfl hnm rfl rfl rfl (Nat.le_of_ble_eq_true rfl) dLife_9 ?_
  refine n_ret (fun k => match k with | 0 => h0 | 1 => q1 | _ => 0) C hr hlk rfl rfl dLife_12
theorem dHouseReader_0 : decode prog_6_method_1_code 0 = .ok (.aload_n 0, 1) := by decide +kernel
theorem dHouseReader_1 : decode prog_6_method_1_code 1 = .ok (.invokespecial 3, 3) := by decide +kernel
theorem dHouseReader_4 : decode prog_6_method_1_code 4 = .ok (.aload_n 0, 1) := by decide +kernel
theorem dHouseReader_5 : decode prog_6_method_1_code 5 = .ok (.aload_n 1, 1) := by decide +kernel
theorem dHouseReader_6 : decode prog_6_method_1_code 6 = .ok (.putfield 9, 3) := by decide +kernel
theorem dHouseReader_9 : decode prog_6_method_1_code 9 = .ok (.return_, 1) := by decide +kernel
def z_HouseReader (cA : Nat → ClassId) (tp : Nat) (a : Nat → Nat) : va_W := [(a 0, .inr (4, [.ref tp, .null, .int 0, .int 0]))]
set_option maxRecDepth 20000 in
theorem c_HouseReader (l : Launch) (D : va_G) (cA : Nat → ClassId) (N0 : Nat) (adK : Nat → Nat) (X : va_W) (h0 : Nat) (tp : Nat) : Met l (⟨"SilentTurn$HouseReader", "<init>", "(LSilentTurn$Tape;)V"⟩ : MethodName) (wS (⟨"SilentTurn$HouseReader", "<init>", "(LSilentTurn$Tape;)V"⟩ : MethodName) prog_6_method_1_code 2 none) { frames := 2, cells := 0, slots := 0, locals := 120 } (va_Pc (.ref h0 :: [.ref tp]) (PreC D cA N0 adK (X ++ [(h0, .inr (4, df4))]))) (PostC D N0 X (z_HouseReader cA tp) h0) 0 0 (AN N0) := by
  refine Met_con (by decide) rfl (Nat.le_of_ble_eq_true rfl) (fun p e s m args below meth c C hr hlk hnm => ?_)
  obtain ⟨adV, -, -, -, -, -, h6, h7, h8⟩ := id C.2.2.2.2.2.2.2
  refine n_aload C dHouseReader_0 0 rfl ?_
  refine n_obj C (inT (in_t1 (List.mem_of_getElem? (i := 141) rfl)) rfl) tObj dHouseReader_1 (Nat.le_of_ble_eq_true rfl) (Nat.le_of_ble_eq_true rfl) ?_
  refine n_aload C dHouseReader_4 0 rfl ?_
  refine n_aload C dHouseReader_5 1 rfl ?_
  refine n_putF (ci := 4) (k := 0) (f := 0) C (by decide) rfl (by decide) (inT (in_t1 (List.mem_of_getElem? (i := 142) rfl)) rfl) rfl hnm rfl rfl rfl (Nat.le_of_ble_eq_true rfl) dHouseReader_6 ?_
  refine n_ret (fun k => match k with | 0 => h0 | _ => 0) C hr hlk rfl rfl dHouseReader_9
theorem dDaysReader_0 : decode prog_4_method_1_code 0 = .ok (.aload_n 0, 1) := by decide +kernel
theorem dDaysReader_1 : decode prog_4_method_1_code 1 = .ok (.invokespecial 3, 3) := by decide +kernel
theorem dDaysReader_4 : decode prog_4_method_1_code 4 = .ok (.aload_n 0, 1) := by decide +kernel
theorem dDaysReader_5 : decode prog_4_method_1_code 5 = .ok (.iconst 3, 1) := by decide +kernel
theorem dDaysReader_6 : decode prog_4_method_1_code 6 = .ok (.newarray .int, 2) := by decide +kernel
theorem dDaysReader_8 : decode prog_4_method_1_code 8 = .ok (.putfield 9, 3) := by decide +kernel
theorem dDaysReader_11 : decode prog_4_method_1_code 11 = .ok (.aload_n 0, 1) := by decide +kernel
theorem dDaysReader_12 : decode prog_4_method_1_code 12 = .ok (.aload_n 1, 1) := by decide +kernel
theorem dDaysReader_13 : decode prog_4_method_1_code 13 = .ok (.putfield 15, 3) := by decide +kernel
theorem dDaysReader_16 : decode prog_4_method_1_code 16 = .ok (.return_, 1) := by decide +kernel
def z_DaysReader (cA : Nat → ClassId) (tp : Nat) (a : Nat → Nat) : va_W := [(a 0, .inr (2, [.ref tp, .ref (a 1), .int 0, .null, .null])), (a 1, .inl (cA 1, 3, .inl (fun _ => 0)))]
set_option maxRecDepth 20000 in
theorem c_DaysReader (l : Launch) (D : va_G) (cA : Nat → ClassId) (N0 : Nat) (adK : Nat → Nat) (X : va_W) (h0 : Nat) (tp : Nat) : Met l (⟨"SilentTurn$DaysReader", "<init>", "(LSilentTurn$Tape;)V"⟩ : MethodName) (wS (⟨"SilentTurn$DaysReader", "<init>", "(LSilentTurn$Tape;)V"⟩ : MethodName) prog_4_method_1_code 2 none) { frames := 2, cells := 1, slots := 3, locals := 120 } (va_Pc (.ref h0 :: [.ref tp]) (PreC D cA N0 adK (X ++ [(h0, .inr (2, df2))]))) (PostC D N0 X (z_DaysReader cA tp) h0) 1 3 (AN N0) := by
  refine Met_con (by decide) rfl (Nat.le_of_ble_eq_true rfl) (fun p e s m args below meth c C hr hlk hnm => ?_)
  obtain ⟨adV, -, -, -, -, -, h6, h7, h8⟩ := id C.2.2.2.2.2.2.2
  refine n_aload C dDaysReader_0 0 rfl ?_
  refine n_obj C (inT (in_t1 (List.mem_of_getElem? (i := 160) rfl)) rfl) tObj dDaysReader_1 (Nat.le_of_ble_eq_true rfl) (Nat.le_of_ble_eq_true rfl) ?_
  refine n_aload C dDaysReader_4 0 rfl ?_
  refine n_iconst (v := 3) C dDaysReader_5 (by decide) ?_
  refine n_newa (atype := .int) (ty := .int) (N' := 3) (tk := 0) (a0 := (3, .inl (fun _ => 0))) C (inT (in_t1 (List.mem_of_getElem? (i := 133) rfl)) rfl) rfl rfl (fun _ h => h) (fun _ => rfl) (by decide) (by decide) (by decide) (Nat.le_of_ble_eq_true rfl) (Nat.le_of_ble_eq_true rfl) dDaysReader_6 (fun q1 => ?_)
  refine n_putF (ci := 2) (k := 0) (f := 1) C (by decide) rfl (by decide) (inT (in_t1 (List.mem_of_getElem? (i := 162) rfl)) rfl) rfl hnm rfl rfl rfl (Nat.le_of_ble_eq_true rfl) dDaysReader_8 ?_
  refine n_aload C dDaysReader_11 0 rfl ?_
  refine n_aload C dDaysReader_12 1 rfl ?_
  refine n_putF (ci := 2) (k := 0) (f := 0) C (by decide) rfl (by decide) (inT (in_t1 (List.mem_of_getElem? (i := 161) rfl)) rfl) rfl hnm rfl rfl rfl (Nat.le_of_ble_eq_true rfl) dDaysReader_13 ?_
  refine n_ret (fun k => match k with | 0 => h0 | 1 => q1 | _ => 0) C hr hlk rfl rfl dDaysReader_16
