theorem dModel_0 : decode prog_14_method_1_code 0 = .ok (.aload_n 0, 1) := by decide +kernel
theorem dModel_1 : decode prog_14_method_1_code 1 = .ok (.invokespecial 1, 3) := by decide +kernel
theorem dModel_4 : decode prog_14_method_1_code 4 = .ok (.aload_n 0, 1) := by decide +kernel
theorem dModel_5 : decode prog_14_method_1_code 5 = .ok (.sipush 3372, 3) := by decide +kernel
theorem dModel_8 : decode prog_14_method_1_code 8 = .ok (.newarray .int, 2) := by decide +kernel
theorem dModel_10 : decode prog_14_method_1_code 10 = .ok (.putfield 7, 3) := by decide +kernel
theorem dModel_13 : decode prog_14_method_1_code 13 = .ok (.aload_n 0, 1) := by decide +kernel
theorem dModel_14 : decode prog_14_method_1_code 14 = .ok (.bipush 78, 2) := by decide +kernel
theorem dModel_16 : decode prog_14_method_1_code 16 = .ok (.newarray .long, 2) := by decide +kernel
theorem dModel_18 : decode prog_14_method_1_code 18 = .ok (.putfield 13, 3) := by decide +kernel
theorem dModel_21 : decode prog_14_method_1_code 21 = .ok (.aload_n 0, 1) := by decide +kernel
theorem dModel_22 : decode prog_14_method_1_code 22 = .ok (.lconst 1, 1) := by decide +kernel
theorem dModel_23 : decode prog_14_method_1_code 23 = .ok (.putfield 17, 3) := by decide +kernel
theorem dModel_26 : decode prog_14_method_1_code 26 = .ok (.aload_n 0, 1) := by decide +kernel
theorem dModel_27 : decode prog_14_method_1_code 27 = .ok (.iconst 4, 1) := by decide +kernel
theorem dModel_28 : decode prog_14_method_1_code 28 = .ok (.newarray .int, 2) := by decide +kernel
theorem dModel_30 : decode prog_14_method_1_code 30 = .ok (.putfield 21, 3) := by decide +kernel
theorem dModel_33 : decode prog_14_method_1_code 33 = .ok (.aload_n 0, 1) := by decide +kernel
theorem dModel_34 : decode prog_14_method_1_code 34 = .ok (.iconst 4, 1) := by decide +kernel
theorem dModel_35 : decode prog_14_method_1_code 35 = .ok (.newarray .int, 2) := by decide +kernel
theorem dModel_37 : decode prog_14_method_1_code 37 = .ok (.dup, 1) := by decide +kernel
theorem dModel_38 : decode prog_14_method_1_code 38 = .ok (.iconst 0, 1) := by decide +kernel
theorem dModel_39 : decode prog_14_method_1_code 39 = .ok (.iconst (-1), 1) := by decide +kernel
theorem dModel_40 : decode prog_14_method_1_code 40 = .ok (.iastore, 1) := by decide +kernel
theorem dModel_41 : decode prog_14_method_1_code 41 = .ok (.dup, 1) := by decide +kernel
theorem dModel_42 : decode prog_14_method_1_code 42 = .ok (.iconst 1, 1) := by decide +kernel
theorem dModel_43 : decode prog_14_method_1_code 43 = .ok (.iconst (-1), 1) := by decide +kernel
theorem dModel_44 : decode prog_14_method_1_code 44 = .ok (.iastore, 1) := by decide +kernel
theorem dModel_45 : decode prog_14_method_1_code 45 = .ok (.dup, 1) := by decide +kernel
theorem dModel_46 : decode prog_14_method_1_code 46 = .ok (.iconst 2, 1) := by decide +kernel
theorem dModel_47 : decode prog_14_method_1_code 47 = .ok (.iconst (-1), 1) := by decide +kernel
theorem dModel_48 : decode prog_14_method_1_code 48 = .ok (.iastore, 1) := by decide +kernel
theorem dModel_49 : decode prog_14_method_1_code 49 = .ok (.dup, 1) := by decide +kernel
theorem dModel_50 : decode prog_14_method_1_code 50 = .ok (.iconst 3, 1) := by decide +kernel
theorem dModel_51 : decode prog_14_method_1_code 51 = .ok (.iconst (-1), 1) := by decide +kernel
theorem dModel_52 : decode prog_14_method_1_code 52 = .ok (.iastore, 1) := by decide +kernel
theorem dModel_53 : decode prog_14_method_1_code 53 = .ok (.putfield 24, 3) := by decide +kernel
theorem dModel_56 : decode prog_14_method_1_code 56 = .ok (.aload_n 0, 1) := by decide +kernel
theorem dModel_57 : decode prog_14_method_1_code 57 = .ok (.sipush 240, 3) := by decide +kernel
theorem dModel_60 : decode prog_14_method_1_code 60 = .ok (.newarray .long, 2) := by decide +kernel
theorem dModel_62 : decode prog_14_method_1_code 62 = .ok (.putfield 27, 3) := by decide +kernel
theorem dModel_65 : decode prog_14_method_1_code 65 = .ok (.aload_n 0, 1) := by decide +kernel
theorem dModel_66 : decode prog_14_method_1_code 66 = .ok (.sipush 900, 3) := by decide +kernel
theorem dModel_69 : decode prog_14_method_1_code 69 = .ok (.newarray .byte, 2) := by decide +kernel
theorem dModel_71 : decode prog_14_method_1_code 71 = .ok (.putfield 30, 3) := by decide +kernel
theorem dModel_74 : decode prog_14_method_1_code 74 = .ok (.aload_n 0, 1) := by decide +kernel
theorem dModel_75 : decode prog_14_method_1_code 75 = .ok (.sipush 900, 3) := by decide +kernel
theorem dModel_78 : decode prog_14_method_1_code 78 = .ok (.newarray .byte, 2) := by decide +kernel
theorem dModel_80 : decode prog_14_method_1_code 80 = .ok (.putfield 34, 3) := by decide +kernel
theorem dModel_83 : decode prog_14_method_1_code 83 = .ok (.aload_n 0, 1) := by decide +kernel
theorem dModel_84 : decode prog_14_method_1_code 84 = .ok (.iconst (-1), 1) := by decide +kernel
theorem dModel_85 : decode prog_14_method_1_code 85 = .ok (.putfield 37, 3) := by decide +kernel
theorem dModel_88 : decode prog_14_method_1_code 88 = .ok (.aload_n 0, 1) := by decide +kernel
theorem dModel_89 : decode prog_14_method_1_code 89 = .ok (.iconst (-1), 1) := by decide +kernel
theorem dModel_90 : decode prog_14_method_1_code 90 = .ok (.putfield 41, 3) := by decide +kernel
theorem dModel_93 : decode prog_14_method_1_code 93 = .ok (.aload_n 0, 1) := by decide +kernel
theorem dModel_94 : decode prog_14_method_1_code 94 = .ok (.iconst 3, 1) := by decide +kernel
theorem dModel_95 : decode prog_14_method_1_code 95 = .ok (.newarray .int, 2) := by decide +kernel
theorem dModel_97 : decode prog_14_method_1_code 97 = .ok (.putfield 44, 3) := by decide +kernel
theorem dModel_100 : decode prog_14_method_1_code 100 = .ok (.aload_n 0, 1) := by decide +kernel
theorem dModel_101 : decode prog_14_method_1_code 101 = .ok (.iconst 4, 1) := by decide +kernel
theorem dModel_102 : decode prog_14_method_1_code 102 = .ok (.newarray .int, 2) := by decide +kernel
theorem dModel_104 : decode prog_14_method_1_code 104 = .ok (.putfield 47, 3) := by decide +kernel
theorem dModel_107 : decode prog_14_method_1_code 107 = .ok (.aload_n 0, 1) := by decide +kernel
theorem dModel_108 : decode prog_14_method_1_code 108 = .ok (.iconst 4, 1) := by decide +kernel
theorem dModel_109 : decode prog_14_method_1_code 109 = .ok (.newarray .int, 2) := by decide +kernel
theorem dModel_111 : decode prog_14_method_1_code 111 = .ok (.putfield 50, 3) := by decide +kernel
theorem dModel_114 : decode prog_14_method_1_code 114 = .ok (.aload_n 0, 1) := by decide +kernel
theorem dModel_115 : decode prog_14_method_1_code 115 = .ok (.sipush 384, 3) := by decide +kernel
theorem dModel_118 : decode prog_14_method_1_code 118 = .ok (.newarray .int, 2) := by decide +kernel
theorem dModel_120 : decode prog_14_method_1_code 120 = .ok (.putfield 53, 3) := by decide +kernel
theorem dModel_123 : decode prog_14_method_1_code 123 = .ok (.aload_n 0, 1) := by decide +kernel
theorem dModel_124 : decode prog_14_method_1_code 124 = .ok (.sipush 384, 3) := by decide +kernel
theorem dModel_127 : decode prog_14_method_1_code 127 = .ok (.newarray .boolean, 2) := by decide +kernel
theorem dModel_129 : decode prog_14_method_1_code 129 = .ok (.putfield 56, 3) := by decide +kernel
theorem dModel_132 : decode prog_14_method_1_code 132 = .ok (.aload_n 0, 1) := by decide +kernel
theorem dModel_133 : decode prog_14_method_1_code 133 = .ok (.bipush 6, 2) := by decide +kernel
theorem dModel_135 : decode prog_14_method_1_code 135 = .ok (.newarray .int, 2) := by decide +kernel
theorem dModel_137 : decode prog_14_method_1_code 137 = .ok (.putfield 60, 3) := by decide +kernel
theorem dModel_140 : decode prog_14_method_1_code 140 = .ok (.aload_n 0, 1) := by decide +kernel
theorem dModel_141 : decode prog_14_method_1_code 141 = .ok (.iconst 5, 1) := by decide +kernel
theorem dModel_142 : decode prog_14_method_1_code 142 = .ok (.newarray .int, 2) := by decide +kernel
theorem dModel_144 : decode prog_14_method_1_code 144 = .ok (.putfield 63, 3) := by decide +kernel
theorem dModel_147 : decode prog_14_method_1_code 147 = .ok (.aload_n 0, 1) := by decide +kernel
theorem dModel_148 : decode prog_14_method_1_code 148 = .ok (.iconst 5, 1) := by decide +kernel
theorem dModel_149 : decode prog_14_method_1_code 149 = .ok (.newarray .int, 2) := by decide +kernel
theorem dModel_151 : decode prog_14_method_1_code 151 = .ok (.putfield 66, 3) := by decide +kernel
theorem dModel_154 : decode prog_14_method_1_code 154 = .ok (.aload_n 0, 1) := by decide +kernel
theorem dModel_155 : decode prog_14_method_1_code 155 = .ok (.sipush 128, 3) := by decide +kernel
theorem dModel_158 : decode prog_14_method_1_code 158 = .ok (.newarray .int, 2) := by decide +kernel
theorem dModel_160 : decode prog_14_method_1_code 160 = .ok (.putfield 69, 3) := by decide +kernel
theorem dModel_163 : decode prog_14_method_1_code 163 = .ok (.aload_n 0, 1) := by decide +kernel
theorem dModel_164 : decode prog_14_method_1_code 164 = .ok (.bipush 8, 2) := by decide +kernel
theorem dModel_166 : decode prog_14_method_1_code 166 = .ok (.newarray .long, 2) := by decide +kernel
theorem dModel_168 : decode prog_14_method_1_code 168 = .ok (.putfield 72, 3) := by decide +kernel
theorem dModel_171 : decode prog_14_method_1_code 171 = .ok (.aload_n 0, 1) := by decide +kernel
theorem dModel_172 : decode prog_14_method_1_code 172 = .ok (.bipush 80, 2) := by decide +kernel
theorem dModel_174 : decode prog_14_method_1_code 174 = .ok (.newarray .int, 2) := by decide +kernel
theorem dModel_176 : decode prog_14_method_1_code 176 = .ok (.putfield 75, 3) := by decide +kernel
theorem dModel_179 : decode prog_14_method_1_code 179 = .ok (.aload_n 0, 1) := by decide +kernel
theorem dModel_180 : decode prog_14_method_1_code 180 = .ok (.iconst 5, 1) := by decide +kernel
theorem dModel_181 : decode prog_14_method_1_code 181 = .ok (.newarray .int, 2) := by decide +kernel
theorem dModel_183 : decode prog_14_method_1_code 183 = .ok (.putfield 78, 3) := by decide +kernel
theorem dModel_186 : decode prog_14_method_1_code 186 = .ok (.aload_n 0, 1) := by decide +kernel
theorem dModel_187 : decode prog_14_method_1_code 187 = .ok (.iconst 5, 1) := by decide +kernel
theorem dModel_188 : decode prog_14_method_1_code 188 = .ok (.newarray .int, 2) := by decide +kernel
theorem dModel_190 : decode prog_14_method_1_code 190 = .ok (.putfield 81, 3) := by decide +kernel
theorem dModel_193 : decode prog_14_method_1_code 193 = .ok (.aload_n 0, 1) := by decide +kernel
theorem dModel_194 : decode prog_14_method_1_code 194 = .ok (.iconst 0, 1) := by decide +kernel
theorem dModel_195 : decode prog_14_method_1_code 195 = .ok (.invokevirtual 84, 3) := by decide +kernel
theorem dModel_198 : decode prog_14_method_1_code 198 = .ok (.return_, 1) := by decide +kernel
def z_Model0 (cA : Nat → ClassId) (a : Nat → Nat) : va_W := [((a 0), .inr (12, [.ref (a 1), .ref (a 2), .int 0, .long 0, .long 1, .null, .null, .null, .null, .null, .int 0, .int 0, .int 0, .int 0, .int 0, .int 0, .int 0, .int 0, .int 0, .int 0, .int 0, .null, .int 0, .int 0, .int 0, .int 0, .int 0, .null, .null, .int 0, .null, .null, .null, .int 0, .int 0, .null, .null, .int 0, .null, .null, .int 0, .int 0, .null, .null, .null, .int 0, .int 0])), ((a 1), .inl (cA 1, 3372, .inl (fun _ => 0))), ((a 2), .inl (cA 2, 78, .inr (.inl (fun _ => 0))))]
set_option maxRecDepth 20000 in
theorem w_Model0 {p : Program} {l : Launch} {e : Env} {s : State} {m : MethodId} {args : Array Value} {below : List Frame} {meth : Method} {c : Code} {Q : State → Prop} {D : va_G} {cA : Nat → ClassId} {N0 : Nat} {adK : Nat → Nat} {X : va_W} {h0 : Nat} (C : Cc p s m args c prog_14_method_1_code D cA N0 adK 1 "SilentTurnModel") (hnm : meth.name = "<init>") (kk : ∀ u : Nat → Nat, u 0 = h0 → Cn p l e { frames := 12, cells := 20, slots := 6519, locals := 720 } s m args below meth c Q D N0 1 (X ++ z_Model0 cA u) 26 [(0, .ref (u 0))] [] 2 3450) : Cn p l e { frames := 12, cells := 20, slots := 6519, locals := 720 } s m args below meth c Q D N0 1 (X ++ [(h0, .inr (12, df12))]) 0 [(0, .ref h0)] [] 0 0 := by
  obtain ⟨adV, -, -, -, -, -, h6, h7, h8⟩ := id C.2.2.2.2.2.2.2
  refine n_aload C dModel_0 0 rfl ?_
  refine n_obj C (inT (in_t6 (List.mem_of_getElem? (i := 145) rfl)) rfl) tObj dModel_1 (Nat.le_of_ble_eq_true rfl) (Nat.le_of_ble_eq_true rfl) ?_
  refine n_aload C dModel_4 0 rfl ?_
  refine n_sipush (v := 3372) C dModel_5 (by decide) ?_
  refine n_newa (atype := .int) (ty := .int) (N' := 3372) (tk := 0) (a0 := (3372, .inl (fun _ => 0))) C (inT (in_t1 (List.mem_of_getElem? (i := 133) rfl)) rfl) rfl rfl (fun _ h => h) (fun _ => rfl) (by decide) (by decide) (by decide) (Nat.le_of_ble_eq_true rfl) (Nat.le_of_ble_eq_true rfl) dModel_8 (fun q1 => ?_)
  refine n_putF (ci := 12) (k := 0) (f := 0) C (by decide) rfl (by decide) (inT (in_t6 (List.mem_of_getElem? (i := 150) rfl)) rfl) rfl hnm rfl rfl rfl (Nat.le_of_ble_eq_true rfl) dModel_10 ?_
  refine n_aload C dModel_13 0 rfl ?_
  refine n_bipush (v := 78) C dModel_14 (by decide) ?_
  refine n_newa (atype := .long) (ty := .long) (N' := 78) (tk := 1) (a0 := (78, .inr (.inl (fun _ => 0)))) C (inT (in_t1 (List.mem_of_getElem? (i := 134) rfl)) rfl) rfl rfl (fun _ h => h) (fun _ => rfl) (by decide) (by decide) (by decide) (Nat.le_of_ble_eq_true rfl) (Nat.le_of_ble_eq_true rfl) dModel_16 (fun q2 => ?_)
  refine n_putF (ci := 12) (k := 0) (f := 1) C (by decide) rfl (by decide) (inT (in_t6 (List.mem_of_getElem? (i := 151) rfl)) rfl) rfl hnm rfl rfl rfl (Nat.le_of_ble_eq_true rfl) dModel_18 ?_
  refine n_aload C dModel_21 0 rfl ?_
  refine n_lconst (v := 1) C dModel_22 (by decide) ?_
  refine n_put (ci := 12) (k := 0) (f := 4) C (by decide) rfl (by decide) (inT (in_t6 (List.mem_of_getElem? (i := 154) rfl)) rfl) rfl rfl rfl (Nat.le_of_ble_eq_true rfl) dModel_23 ?_
  exact kk (fun k => match k with | 0 => h0 | 1 => q1 | 2 => q2 | _ => 0) rfl
def z_Model1 (cA : Nat → ClassId) (a : Nat → Nat) : va_W := [((a 0), .inr (12, [.ref (a 1), .ref (a 2), .int 0, .long 0, .long 1, .ref (a 3), .ref (a 4), .null, .null, .null, .int 0, .int 0, .int 0, .int 0, .int 0, .int 0, .int 0, .int 0, .int 0, .int 0, .int 0, .null, .int 0, .int 0, .int 0, .int 0, .int 0, .null, .null, .int 0, .null, .null, .null, .int 0, .int 0, .null, .null, .int 0, .null, .null, .int 0, .int 0, .null, .null, .null, .int 0, .int 0])), ((a 1), .inl (cA 1, 3372, .inl (fun _ => 0))), ((a 2), .inl (cA 2, 78, .inr (.inl (fun _ => 0)))), ((a 3), .inl (cA 1, 4, .inl (fun _ => 0))), ((a 4), .inl (cA 1, 4, .inl (upd (upd (upd (upd (fun _ => 0) 0 ((-1))) 1 ((-1))) 2 ((-1))) 3 ((-1)))))]
set_option maxRecDepth 20000 in
theorem w_Model1 {p : Program} {l : Launch} {e : Env} {s : State} {m : MethodId} {args : Array Value} {below : List Frame} {meth : Method} {c : Code} {Q : State → Prop} {D : va_G} {cA : Nat → ClassId} {N0 : Nat} {adK : Nat → Nat} {X : va_W} {a : Nat → Nat} (C : Cc p s m args c prog_14_method_1_code D cA N0 adK 1 "SilentTurnModel") (hnm : meth.name = "<init>") (kk : ∀ u : Nat → Nat, u 0 = a 0 → Cn p l e { frames := 12, cells := 20, slots := 6519, locals := 720 } s m args below meth c Q D N0 1 (X ++ z_Model1 cA u) 56 [(0, .ref (u 0))] [] 4 3458) : Cn p l e { frames := 12, cells := 20, slots := 6519, locals := 720 } s m args below meth c Q D N0 1 (X ++ z_Model0 cA a) 26 [(0, .ref (a 0))] [] 2 3450 := by
  obtain ⟨adV, -, -, -, -, -, h6, h7, h8⟩ := id C.2.2.2.2.2.2.2
  refine n_aload C dModel_26 0 rfl ?_
  refine n_iconst (v := 4) C dModel_27 (by decide) ?_
  refine n_newa (atype := .int) (ty := .int) (N' := 4) (tk := 0) (a0 := (4, .inl (fun _ => 0))) C (inT (in_t1 (List.mem_of_getElem? (i := 133) rfl)) rfl) rfl rfl (fun _ h => h) (fun _ => rfl) (by decide) (by decide) (by decide) (Nat.le_of_ble_eq_true rfl) (Nat.le_of_ble_eq_true rfl) dModel_28 (fun q1 => ?_)
  refine n_putF (ci := 12) (k := 0) (f := 5) C (by decide) rfl (by decide) (inT (in_t6 (List.mem_of_getElem? (i := 155) rfl)) rfl) rfl hnm rfl rfl rfl (Nat.le_of_ble_eq_true rfl) dModel_30 ?_
  refine n_aload C dModel_33 0 rfl ?_
  refine n_iconst (v := 4) C dModel_34 (by decide) ?_
  refine n_newa (atype := .int) (ty := .int) (N' := 4) (tk := 0) (a0 := (4, .inl (fun _ => 0))) C (inT (in_t1 (List.mem_of_getElem? (i := 133) rfl)) rfl) rfl rfl (fun _ h => h) (fun _ => rfl) (by decide) (by decide) (by decide) (Nat.le_of_ble_eq_true rfl) (Nat.le_of_ble_eq_true rfl) dModel_35 (fun q2 => ?_)
  refine n_dup C dModel_37 rfl ?_
  refine n_iconst (v := 0) C dModel_38 (by decide) ?_
  refine n_iconst (v := -1) C dModel_39 (by decide) ?_
  refine n_iast (k := 4) (tk := 0) C rfl rfl (by unfold vp_in; decide) dModel_40 ?_
  refine n_dup C dModel_41 rfl ?_
  refine n_iconst (v := 1) C dModel_42 (by decide) ?_
  refine n_iconst (v := -1) C dModel_43 (by decide) ?_
  refine n_iast (k := 4) (tk := 0) C rfl rfl (by unfold vp_in; decide) dModel_44 ?_
  refine n_dup C dModel_45 rfl ?_
  refine n_iconst (v := 2) C dModel_46 (by decide) ?_
  refine n_iconst (v := -1) C dModel_47 (by decide) ?_
  refine n_iast (k := 4) (tk := 0) C rfl rfl (by unfold vp_in; decide) dModel_48 ?_
  refine n_dup C dModel_49 rfl ?_
  refine n_iconst (v := 3) C dModel_50 (by decide) ?_
  refine n_iconst (v := -1) C dModel_51 (by decide) ?_
  refine n_iast (k := 4) (tk := 0) C rfl rfl (by unfold vp_in; decide) dModel_52 ?_
  refine n_putF (ci := 12) (k := 0) (f := 6) C (by decide) rfl (by decide) (inT (in_t6 (List.mem_of_getElem? (i := 156) rfl)) rfl) rfl hnm rfl rfl rfl (Nat.le_of_ble_eq_true rfl) dModel_53 ?_
  exact kk (fun k => match k with | 0 => (a 0) | 1 => (a 1) | 2 => (a 2) | 3 => q1 | 4 => q2 | _ => 0) rfl
def z_Model2 (cA : Nat → ClassId) (a : Nat → Nat) : va_W := [((a 0), .inr (12, [.ref (a 1), .ref (a 2), .int 0, .long 0, .long 1, .ref (a 3), .ref (a 4), .ref (a 5), .ref (a 6), .ref (a 7), .int 0, .int 0, .int 0, .int 0, .int 0, .int 0, .int 0, .int 0, .int 0, .int 0, .int 0, .null, .int 0, .int 0, .int 0, .int 0, .int 0, .null, .null, .int 0, .null, .null, .null, .int 0, .int 0, .null, .null, .int 0, .null, .null, .int 0, .int 0, .null, .null, .null, .int 0, .int 0])), ((a 1), .inl (cA 1, 3372, .inl (fun _ => 0))), ((a 2), .inl (cA 2, 78, .inr (.inl (fun _ => 0)))), ((a 3), .inl (cA 1, 4, .inl (fun _ => 0))), ((a 4), .inl (cA 1, 4, .inl (upd (upd (upd (upd (fun _ => 0) 0 ((-1))) 1 ((-1))) 2 ((-1))) 3 ((-1))))), ((a 5), .inl (cA 2, 240, .inr (.inl (fun _ => 0)))), ((a 6), .inl (cA 3, 900, .inl (fun _ => 0))), ((a 7), .inl (cA 3, 900, .inl (fun _ => 0)))]
set_option maxRecDepth 20000 in
theorem w_Model2 {p : Program} {l : Launch} {e : Env} {s : State} {m : MethodId} {args : Array Value} {below : List Frame} {meth : Method} {c : Code} {Q : State → Prop} {D : va_G} {cA : Nat → ClassId} {N0 : Nat} {adK : Nat → Nat} {X : va_W} {a : Nat → Nat} (C : Cc p s m args c prog_14_method_1_code D cA N0 adK 1 "SilentTurnModel") (hnm : meth.name = "<init>") (kk : ∀ u : Nat → Nat, u 0 = a 0 → Cn p l e { frames := 12, cells := 20, slots := 6519, locals := 720 } s m args below meth c Q D N0 1 (X ++ z_Model2 cA u) 83 [(0, .ref (u 0))] [] 7 5498) : Cn p l e { frames := 12, cells := 20, slots := 6519, locals := 720 } s m args below meth c Q D N0 1 (X ++ z_Model1 cA a) 56 [(0, .ref (a 0))] [] 4 3458 := by
  obtain ⟨adV, -, -, -, -, -, h6, h7, h8⟩ := id C.2.2.2.2.2.2.2
  refine n_aload C dModel_56 0 rfl ?_
  refine n_sipush (v := 240) C dModel_57 (by decide) ?_
  refine n_newa (atype := .long) (ty := .long) (N' := 240) (tk := 1) (a0 := (240, .inr (.inl (fun _ => 0)))) C (inT (in_t1 (List.mem_of_getElem? (i := 134) rfl)) rfl) rfl rfl (fun _ h => h) (fun _ => rfl) (by decide) (by decide) (by decide) (Nat.le_of_ble_eq_true rfl) (Nat.le_of_ble_eq_true rfl) dModel_60 (fun q1 => ?_)
  refine n_putF (ci := 12) (k := 0) (f := 7) C (by decide) rfl (by decide) (inT (in_t6 (List.mem_of_getElem? (i := 157) rfl)) rfl) rfl hnm rfl rfl rfl (Nat.le_of_ble_eq_true rfl) dModel_62 ?_
  refine n_aload C dModel_65 0 rfl ?_
  refine n_sipush (v := 900) C dModel_66 (by decide) ?_
  refine n_newa (atype := .byte) (ty := .byte) (N' := 900) (tk := 2) (a0 := (900, .inl (fun _ => 0))) C (inT (in_t1 (List.mem_of_getElem? (i := 135) rfl)) rfl) rfl rfl (fun _ h => h) (fun _ => rfl) (by decide) (by decide) (by decide) (Nat.le_of_ble_eq_true rfl) (Nat.le_of_ble_eq_true rfl) dModel_69 (fun q2 => ?_)
  refine n_putF (ci := 12) (k := 0) (f := 8) C (by decide) rfl (by decide) (inT (in_t6 (List.mem_of_getElem? (i := 158) rfl)) rfl) rfl hnm rfl rfl rfl (Nat.le_of_ble_eq_true rfl) dModel_71 ?_
  refine n_aload C dModel_74 0 rfl ?_
  refine n_sipush (v := 900) C dModel_75 (by decide) ?_
  refine n_newa (atype := .byte) (ty := .byte) (N' := 900) (tk := 2) (a0 := (900, .inl (fun _ => 0))) C (inT (in_t1 (List.mem_of_getElem? (i := 135) rfl)) rfl) rfl rfl (fun _ h => h) (fun _ => rfl) (by decide) (by decide) (by decide) (Nat.le_of_ble_eq_true rfl) (Nat.le_of_ble_eq_true rfl) dModel_78 (fun q3 => ?_)
  refine n_putF (ci := 12) (k := 0) (f := 9) C (by decide) rfl (by decide) (inT (in_t6 (List.mem_of_getElem? (i := 159) rfl)) rfl) rfl hnm rfl rfl rfl (Nat.le_of_ble_eq_true rfl) dModel_80 ?_
  exact kk (fun k => match k with | 0 => (a 0) | 1 => (a 1) | 2 => (a 2) | 3 => (a 3) | 4 => (a 4) | 5 => q1 | 6 => q2 | 7 => q3 | _ => 0) rfl
def z_Model3 (cA : Nat → ClassId) (a : Nat → Nat) : va_W := [((a 0), .inr (12, [.ref (a 1), .ref (a 2), .int 0, .long 0, .long 1, .ref (a 3), .ref (a 4), .ref (a 5), .ref (a 6), .ref (a 7), .int 0, .int 0, .int 0, .int 0, .int 0, .int 0, .int (-1), .int (-1), .int 0, .int 0, .int 0, .ref (a 8), .int 0, .int 0, .int 0, .int 0, .int 0, .ref (a 9), .ref (a 10), .int 0, .null, .null, .null, .int 0, .int 0, .null, .null, .int 0, .null, .null, .int 0, .int 0, .null, .null, .null, .int 0, .int 0])), ((a 1), .inl (cA 1, 3372, .inl (fun _ => 0))), ((a 2), .inl (cA 2, 78, .inr (.inl (fun _ => 0)))), ((a 3), .inl (cA 1, 4, .inl (fun _ => 0))), ((a 4), .inl (cA 1, 4, .inl (upd (upd (upd (upd (fun _ => 0) 0 ((-1))) 1 ((-1))) 2 ((-1))) 3 ((-1))))), ((a 5), .inl (cA 2, 240, .inr (.inl (fun _ => 0)))), ((a 6), .inl (cA 3, 900, .inl (fun _ => 0))), ((a 7), .inl (cA 3, 900, .inl (fun _ => 0))), ((a 8), .inl (cA 1, 3, .inl (fun _ => 0))), ((a 9), .inl (cA 1, 4, .inl (fun _ => 0))), ((a 10), .inl (cA 1, 4, .inl (fun _ => 0)))]
set_option maxRecDepth 20000 in
theorem w_Model3 {p : Program} {l : Launch} {e : Env} {s : State} {m : MethodId} {args : Array Value} {below : List Frame} {meth : Method} {c : Code} {Q : State → Prop} {D : va_G} {cA : Nat → ClassId} {N0 : Nat} {adK : Nat → Nat} {X : va_W} {a : Nat → Nat} (C : Cc p s m args c prog_14_method_1_code D cA N0 adK 1 "SilentTurnModel") (hnm : meth.name = "<init>") (kk : ∀ u : Nat → Nat, u 0 = a 0 → Cn p l e { frames := 12, cells := 20, slots := 6519, locals := 720 } s m args below meth c Q D N0 1 (X ++ z_Model3 cA u) 114 [(0, .ref (u 0))] [] 10 5509) : Cn p l e { frames := 12, cells := 20, slots := 6519, locals := 720 } s m args below meth c Q D N0 1 (X ++ z_Model2 cA a) 83 [(0, .ref (a 0))] [] 7 5498 := by
  obtain ⟨adV, -, -, -, -, -, h6, h7, h8⟩ := id C.2.2.2.2.2.2.2
  refine n_aload C dModel_83 0 rfl ?_
  refine n_iconst (v := -1) C dModel_84 (by decide) ?_
  refine n_put (ci := 12) (k := 0) (f := 16) C (by decide) rfl (by decide) (inT (in_t6 (List.mem_of_getElem? (i := 166) rfl)) rfl) rfl rfl rfl (Nat.le_of_ble_eq_true rfl) dModel_85 ?_
  refine n_aload C dModel_88 0 rfl ?_
  refine n_iconst (v := -1) C dModel_89 (by decide) ?_
  refine n_put (ci := 12) (k := 0) (f := 17) C (by decide) rfl (by decide) (inT (in_t6 (List.mem_of_getElem? (i := 167) rfl)) rfl) rfl rfl rfl (Nat.le_of_ble_eq_true rfl) dModel_90 ?_
  refine n_aload C dModel_93 0 rfl ?_
  refine n_iconst (v := 3) C dModel_94 (by decide) ?_
  refine n_newa (atype := .int) (ty := .int) (N' := 3) (tk := 0) (a0 := (3, .inl (fun _ => 0))) C (inT (in_t1 (List.mem_of_getElem? (i := 133) rfl)) rfl) rfl rfl (fun _ h => h) (fun _ => rfl) (by decide) (by decide) (by decide) (Nat.le_of_ble_eq_true rfl) (Nat.le_of_ble_eq_true rfl) dModel_95 (fun q1 => ?_)
  refine n_putF (ci := 12) (k := 0) (f := 21) C (by decide) rfl (by decide) (inT (in_t6 (List.mem_of_getElem? (i := 171) rfl)) rfl) rfl hnm rfl rfl rfl (Nat.le_of_ble_eq_true rfl) dModel_97 ?_
  refine n_aload C dModel_100 0 rfl ?_
  refine n_iconst (v := 4) C dModel_101 (by decide) ?_
  refine n_newa (atype := .int) (ty := .int) (N' := 4) (tk := 0) (a0 := (4, .inl (fun _ => 0))) C (inT (in_t1 (List.mem_of_getElem? (i := 133) rfl)) rfl) rfl rfl (fun _ h => h) (fun _ => rfl) (by decide) (by decide) (by decide) (Nat.le_of_ble_eq_true rfl) (Nat.le_of_ble_eq_true rfl) dModel_102 (fun q2 => ?_)
  refine n_putF (ci := 12) (k := 0) (f := 27) C (by decide) rfl (by decide) (inT (in_t6 (List.mem_of_getElem? (i := 177) rfl)) rfl) rfl hnm rfl rfl rfl (Nat.le_of_ble_eq_true rfl) dModel_104 ?_
  refine n_aload C dModel_107 0 rfl ?_
  refine n_iconst (v := 4) C dModel_108 (by decide) ?_
  refine n_newa (atype := .int) (ty := .int) (N' := 4) (tk := 0) (a0 := (4, .inl (fun _ => 0))) C (inT (in_t1 (List.mem_of_getElem? (i := 133) rfl)) rfl) rfl rfl (fun _ h => h) (fun _ => rfl) (by decide) (by decide) (by decide) (Nat.le_of_ble_eq_true rfl) (Nat.le_of_ble_eq_true rfl) dModel_109 (fun q3 => ?_)
  refine n_putF (ci := 12) (k := 0) (f := 28) C (by decide) rfl (by decide) (inT (in_t6 (List.mem_of_getElem? (i := 178) rfl)) rfl) rfl hnm rfl rfl rfl (Nat.le_of_ble_eq_true rfl) dModel_111 ?_
  exact kk (fun k => match k with | 0 => (a 0) | 1 => (a 1) | 2 => (a 2) | 3 => (a 3) | 4 => (a 4) | 5 => (a 5) | 6 => (a 6) | 7 => (a 7) | 8 => q1 | 9 => q2 | 10 => q3 | _ => 0) rfl
def z_Model4 (cA : Nat → ClassId) (a : Nat → Nat) : va_W := [((a 0), .inr (12, [.ref (a 1), .ref (a 2), .int 0, .long 0, .long 1, .ref (a 3), .ref (a 4), .ref (a 5), .ref (a 6), .ref (a 7), .int 0, .int 0, .int 0, .int 0, .int 0, .int 0, .int (-1), .int (-1), .int 0, .int 0, .int 0, .ref (a 8), .int 0, .int 0, .int 0, .int 0, .int 0, .ref (a 9), .ref (a 10), .int 0, .ref (a 11), .ref (a 12), .ref (a 13), .int 0, .int 0, .ref (a 14), .ref (a 15), .int 0, .ref (a 16), .ref (a 17), .int 0, .int 0, .null, .null, .null, .int 0, .int 0])), ((a 1), .inl (cA 1, 3372, .inl (fun _ => 0))), ((a 2), .inl (cA 2, 78, .inr (.inl (fun _ => 0)))), ((a 3), .inl (cA 1, 4, .inl (fun _ => 0))), ((a 4), .inl (cA 1, 4, .inl (upd (upd (upd (upd (fun _ => 0) 0 ((-1))) 1 ((-1))) 2 ((-1))) 3 ((-1))))), ((a 5), .inl (cA 2, 240, .inr (.inl (fun _ => 0)))), ((a 6), .inl (cA 3, 900, .inl (fun _ => 0))), ((a 7), .inl (cA 3, 900, .inl (fun _ => 0))), ((a 8), .inl (cA 1, 3, .inl (fun _ => 0))), ((a 9), .inl (cA 1, 4, .inl (fun _ => 0))), ((a 10), .inl (cA 1, 4, .inl (fun _ => 0))), ((a 11), .inl (cA 1, 384, .inl (fun _ => 0))), ((a 12), .inl (cA 4, 384, .inl (fun _ => 0))), ((a 13), .inl (cA 1, 6, .inl (fun _ => 0))), ((a 14), .inl (cA 1, 5, .inl (fun _ => 0))), ((a 15), .inl (cA 1, 5, .inl (fun _ => 0))), ((a 16), .inl (cA 1, 128, .inl (fun _ => 0))), ((a 17), .inl (cA 2, 8, .inr (.inl (fun _ => 0))))]
set_option maxRecDepth 20000 in
theorem w_Model4 {p : Program} {l : Launch} {e : Env} {s : State} {m : MethodId} {args : Array Value} {below : List Frame} {meth : Method} {c : Code} {Q : State → Prop} {D : va_G} {cA : Nat → ClassId} {N0 : Nat} {adK : Nat → Nat} {X : va_W} {a : Nat → Nat} (C : Cc p s m args c prog_14_method_1_code D cA N0 adK 1 "SilentTurnModel") (hnm : meth.name = "<init>") (kk : ∀ u : Nat → Nat, u 0 = a 0 → Cn p l e { frames := 12, cells := 20, slots := 6519, locals := 720 } s m args below meth c Q D N0 1 (X ++ z_Model4 cA u) 171 [(0, .ref (u 0))] [] 17 6429) : Cn p l e { frames := 12, cells := 20, slots := 6519, locals := 720 } s m args below meth c Q D N0 1 (X ++ z_Model3 cA a) 114 [(0, .ref (a 0))] [] 10 5509 := by
  obtain ⟨adV, -, -, -, -, -, h6, h7, h8⟩ := id C.2.2.2.2.2.2.2
  refine n_aload C dModel_114 0 rfl ?_
  refine n_sipush (v := 384) C dModel_115 (by decide) ?_
  refine n_newa (atype := .int) (ty := .int) (N' := 384) (tk := 0) (a0 := (384, .inl (fun _ => 0))) C (inT (in_t1 (List.mem_of_getElem? (i := 133) rfl)) rfl) rfl rfl (fun _ h => h) (fun _ => rfl) (by decide) (by decide) (by decide) (Nat.le_of_ble_eq_true rfl) (Nat.le_of_ble_eq_true rfl) dModel_118 (fun q1 => ?_)
  refine n_putF (ci := 12) (k := 0) (f := 30) C (by decide) rfl (by decide) (inT (in_t6 (List.mem_of_getElem? (i := 180) rfl)) rfl) rfl hnm rfl rfl rfl (Nat.le_of_ble_eq_true rfl) dModel_120 ?_
  refine n_aload C dModel_123 0 rfl ?_
  refine n_sipush (v := 384) C dModel_124 (by decide) ?_
  refine n_newa (atype := .boolean) (ty := .boolean) (N' := 384) (tk := 3) (a0 := (384, .inl (fun _ => 0))) C (inT (in_t7 (List.mem_of_getElem? (i := 52) rfl)) rfl) rfl rfl (fun _ h => h) (fun _ => rfl) (by decide) (by decide) (by decide) (Nat.le_of_ble_eq_true rfl) (Nat.le_of_ble_eq_true rfl) dModel_127 (fun q2 => ?_)
  refine n_putF (ci := 12) (k := 0) (f := 31) C (by decide) rfl (by decide) (inT (in_t6 (List.mem_of_getElem? (i := 181) rfl)) rfl) rfl hnm rfl rfl rfl (Nat.le_of_ble_eq_true rfl) dModel_129 ?_
  refine n_aload C dModel_132 0 rfl ?_
  refine n_bipush (v := 6) C dModel_133 (by decide) ?_
  refine n_newa (atype := .int) (ty := .int) (N' := 6) (tk := 0) (a0 := (6, .inl (fun _ => 0))) C (inT (in_t1 (List.mem_of_getElem? (i := 133) rfl)) rfl) rfl rfl (fun _ h => h) (fun _ => rfl) (by decide) (by decide) (by decide) (Nat.le_of_ble_eq_true rfl) (Nat.le_of_ble_eq_true rfl) dModel_135 (fun q3 => ?_)
  refine n_putF (ci := 12) (k := 0) (f := 32) C (by decide) rfl (by decide) (inT (in_t6 (List.mem_of_getElem? (i := 182) rfl)) rfl) rfl hnm rfl rfl rfl (Nat.le_of_ble_eq_true rfl) dModel_137 ?_
  refine n_aload C dModel_140 0 rfl ?_
  refine n_iconst (v := 5) C dModel_141 (by decide) ?_
  refine n_newa (atype := .int) (ty := .int) (N' := 5) (tk := 0) (a0 := (5, .inl (fun _ => 0))) C (inT (in_t1 (List.mem_of_getElem? (i := 133) rfl)) rfl) rfl rfl (fun _ h => h) (fun _ => rfl) (by decide) (by decide) (by decide) (Nat.le_of_ble_eq_true rfl) (Nat.le_of_ble_eq_true rfl) dModel_142 (fun q4 => ?_)
  refine n_putF (ci := 12) (k := 0) (f := 35) C (by decide) rfl (by decide) (inT (in_t6 (List.mem_of_getElem? (i := 185) rfl)) rfl) rfl hnm rfl rfl rfl (Nat.le_of_ble_eq_true rfl) dModel_144 ?_
  refine n_aload C dModel_147 0 rfl ?_
  refine n_iconst (v := 5) C dModel_148 (by decide) ?_
  refine n_newa (atype := .int) (ty := .int) (N' := 5) (tk := 0) (a0 := (5, .inl (fun _ => 0))) C (inT (in_t1 (List.mem_of_getElem? (i := 133) rfl)) rfl) rfl rfl (fun _ h => h) (fun _ => rfl) (by decide) (by decide) (by decide) (Nat.le_of_ble_eq_true rfl) (Nat.le_of_ble_eq_true rfl) dModel_149 (fun q5 => ?_)
  refine n_putF (ci := 12) (k := 0) (f := 36) C (by decide) rfl (by decide) (inT (in_t6 (List.mem_of_getElem? (i := 186) rfl)) rfl) rfl hnm rfl rfl rfl (Nat.le_of_ble_eq_true rfl) dModel_151 ?_
  refine n_aload C dModel_154 0 rfl ?_
  refine n_sipush (v := 128) C dModel_155 (by decide) ?_
  refine n_newa (atype := .int) (ty := .int) (N' := 128) (tk := 0) (a0 := (128, .inl (fun _ => 0))) C (inT (in_t1 (List.mem_of_getElem? (i := 133) rfl)) rfl) rfl rfl (fun _ h => h) (fun _ => rfl) (by decide) (by decide) (by decide) (Nat.le_of_ble_eq_true rfl) (Nat.le_of_ble_eq_true rfl) dModel_158 (fun q6 => ?_)
  refine n_putF (ci := 12) (k := 0) (f := 38) C (by decide) rfl (by decide) (inT (in_t6 (List.mem_of_getElem? (i := 188) rfl)) rfl) rfl hnm rfl rfl rfl (Nat.le_of_ble_eq_true rfl) dModel_160 ?_
  refine n_aload C dModel_163 0 rfl ?_
  refine n_bipush (v := 8) C dModel_164 (by decide) ?_
  refine n_newa (atype := .long) (ty := .long) (N' := 8) (tk := 1) (a0 := (8, .inr (.inl (fun _ => 0)))) C (inT (in_t1 (List.mem_of_getElem? (i := 134) rfl)) rfl) rfl rfl (fun _ h => h) (fun _ => rfl) (by decide) (by decide) (by decide) (Nat.le_of_ble_eq_true rfl) (Nat.le_of_ble_eq_true rfl) dModel_166 (fun q7 => ?_)
  refine n_putF (ci := 12) (k := 0) (f := 39) C (by decide) rfl (by decide) (inT (in_t6 (List.mem_of_getElem? (i := 189) rfl)) rfl) rfl hnm rfl rfl rfl (Nat.le_of_ble_eq_true rfl) dModel_168 ?_
  exact kk (fun k => match k with | 0 => (a 0) | 1 => (a 1) | 2 => (a 2) | 3 => (a 3) | 4 => (a 4) | 5 => (a 5) | 6 => (a 6) | 7 => (a 7) | 8 => (a 8) | 9 => (a 9) | 10 => (a 10) | 11 => q1 | 12 => q2 | 13 => q3 | 14 => q4 | 15 => q5 | 16 => q6 | 17 => q7 | _ => 0) rfl
def z_Model5 (cA : Nat → ClassId) (a : Nat → Nat) : va_W := [((a 0), .inr (12, [.ref (a 1), .ref (a 2), .int 0, .long 0, .long 1, .ref (a 3), .ref (a 4), .ref (a 5), .ref (a 6), .ref (a 7), .int 0, .int 0, .int 0, .int 0, .int 0, .int 0, .int (-1), .int (-1), .int 0, .int 0, .int 0, .ref (a 8), .int 0, .int 0, .int 0, .int 0, .int 0, .ref (a 9), .ref (a 10), .int 0, .ref (a 11), .ref (a 12), .ref (a 13), .int 0, .int 0, .ref (a 14), .ref (a 15), .int 0, .ref (a 16), .ref (a 17), .int 0, .int 0, .ref (a 18), .ref (a 19), .ref (a 20), .int 0, .int 0])), ((a 1), .inl (cA 1, 3372, .inl (fun _ => 0))), ((a 2), .inl (cA 2, 78, .inr (.inl (fun _ => 0)))), ((a 3), .inl (cA 1, 4, .inl (fun _ => 0))), ((a 4), .inl (cA 1, 4, .inl (upd (upd (upd (upd (fun _ => 0) 0 ((-1))) 1 ((-1))) 2 ((-1))) 3 ((-1))))), ((a 5), .inl (cA 2, 240, .inr (.inl (fun _ => 0)))), ((a 6), .inl (cA 3, 900, .inl (fun _ => 0))), ((a 7), .inl (cA 3, 900, .inl (fun _ => 0))), ((a 8), .inl (cA 1, 3, .inl (fun _ => 0))), ((a 9), .inl (cA 1, 4, .inl (fun _ => 0))), ((a 10), .inl (cA 1, 4, .inl (fun _ => 0))), ((a 11), .inl (cA 1, 384, .inl (fun _ => 0))), ((a 12), .inl (cA 4, 384, .inl (fun _ => 0))), ((a 13), .inl (cA 1, 6, .inl (fun _ => 0))), ((a 14), .inl (cA 1, 5, .inl (fun _ => 0))), ((a 15), .inl (cA 1, 5, .inl (fun _ => 0))), ((a 16), .inl (cA 1, 128, .inl (fun _ => 0))), ((a 17), .inl (cA 2, 8, .inr (.inl (fun _ => 0)))), ((a 18), .inl (cA 1, 80, .inl (fun _ => 0))), ((a 19), .inl (cA 1, 5, .inl (fun _ => 0))), ((a 20), .inl (cA 1, 5, .inl (fun _ => 0)))]
set_option maxRecDepth 20000 in
theorem w_Model5 {p : Program} {l : Launch} {e : Env} {s : State} {m : MethodId} {args : Array Value} {below : List Frame} {meth : Method} {c : Code} {Q : State → Prop} {D : va_G} {cA : Nat → ClassId} {N0 : Nat} {adK : Nat → Nat} {X : va_W} {a : Nat → Nat} (C : Cc p s m args c prog_14_method_1_code D cA N0 adK 1 "SilentTurnModel") (hnm : meth.name = "<init>") (kk : ∀ u : Nat → Nat, u 0 = a 0 → Cn p l e { frames := 12, cells := 20, slots := 6519, locals := 720 } s m args below meth c Q D N0 1 (X ++ z_Model5 cA u) 193 [(0, .ref (u 0))] [] 20 6519) : Cn p l e { frames := 12, cells := 20, slots := 6519, locals := 720 } s m args below meth c Q D N0 1 (X ++ z_Model4 cA a) 171 [(0, .ref (a 0))] [] 17 6429 := by
  obtain ⟨adV, -, -, -, -, -, h6, h7, h8⟩ := id C.2.2.2.2.2.2.2
  refine n_aload C dModel_171 0 rfl ?_
  refine n_bipush (v := 80) C dModel_172 (by decide) ?_
  refine n_newa (atype := .int) (ty := .int) (N' := 80) (tk := 0) (a0 := (80, .inl (fun _ => 0))) C (inT (in_t1 (List.mem_of_getElem? (i := 133) rfl)) rfl) rfl rfl (fun _ h => h) (fun _ => rfl) (by decide) (by decide) (by decide) (Nat.le_of_ble_eq_true rfl) (Nat.le_of_ble_eq_true rfl) dModel_174 (fun q1 => ?_)
  refine n_putF (ci := 12) (k := 0) (f := 42) C (by decide) rfl (by decide) (inT (in_t6 (List.mem_of_getElem? (i := 192) rfl)) rfl) rfl hnm rfl rfl rfl (Nat.le_of_ble_eq_true rfl) dModel_176 ?_
  refine n_aload C dModel_179 0 rfl ?_
  refine n_iconst (v := 5) C dModel_180 (by decide) ?_
  refine n_newa (atype := .int) (ty := .int) (N' := 5) (tk := 0) (a0 := (5, .inl (fun _ => 0))) C (inT (in_t1 (List.mem_of_getElem? (i := 133) rfl)) rfl) rfl rfl (fun _ h => h) (fun _ => rfl) (by decide) (by decide) (by decide) (Nat.le_of_ble_eq_true rfl) (Nat.le_of_ble_eq_true rfl) dModel_181 (fun q2 => ?_)
  refine n_putF (ci := 12) (k := 0) (f := 43) C (by decide) rfl (by decide) (inT (in_t6 (List.mem_of_getElem? (i := 193) rfl)) rfl) rfl hnm rfl rfl rfl (Nat.le_of_ble_eq_true rfl) dModel_183 ?_
  refine n_aload C dModel_186 0 rfl ?_
  refine n_iconst (v := 5) C dModel_187 (by decide) ?_
  refine n_newa (atype := .int) (ty := .int) (N' := 5) (tk := 0) (a0 := (5, .inl (fun _ => 0))) C (inT (in_t1 (List.mem_of_getElem? (i := 133) rfl)) rfl) rfl rfl (fun _ h => h) (fun _ => rfl) (by decide) (by decide) (by decide) (Nat.le_of_ble_eq_true rfl) (Nat.le_of_ble_eq_true rfl) dModel_188 (fun q3 => ?_)
  refine n_putF (ci := 12) (k := 0) (f := 44) C (by decide) rfl (by decide) (inT (in_t6 (List.mem_of_getElem? (i := 194) rfl)) rfl) rfl hnm rfl rfl rfl (Nat.le_of_ble_eq_true rfl) dModel_190 ?_
  exact kk (fun k => match k with | 0 => (a 0) | 1 => (a 1) | 2 => (a 2) | 3 => (a 3) | 4 => (a 4) | 5 => (a 5) | 6 => (a 6) | 7 => (a 7) | 8 => (a 8) | 9 => (a 9) | 10 => (a 10) | 11 => (a 11) | 12 => (a 12) | 13 => (a 13) | 14 => (a 14) | 15 => (a 15) | 16 => (a 16) | 17 => (a 17) | 18 => q1 | 19 => q2 | 20 => q3 | _ => 0) rfl
abbrev z_Model (cA : Nat → ClassId) (a : Nat → Nat) : va_W := z_Model5 cA a
theorem w_Model {p : Program} {l : Launch} {e : Env} {s : State} {m : MethodId} {args : Array Value} {below : List Frame} {meth : Method} {c : Code} {Q : State → Prop} {D : va_G} {cA : Nat → ClassId} {N0 : Nat} {adK : Nat → Nat} {X : va_W} {h0 : Nat} (C : Cc p s m args c prog_14_method_1_code D cA N0 adK 1 "SilentTurnModel") (hnm : meth.name = "<init>") (kk : ∀ u : Nat → Nat, u 0 = h0 → Cn p l e { frames := 12, cells := 20, slots := 6519, locals := 720 } s m args below meth c Q D N0 1 (X ++ z_Model cA u) 193 [(0, .ref (u 0))] [] 20 6519) : Cn p l e { frames := 12, cells := 20, slots := 6519, locals := 720 } s m args below meth c Q D N0 1 (X ++ [(h0, .inr (12, df12))]) 0 [(0, .ref h0)] [] 0 0 := by
  refine w_Model0 C hnm (fun u0 e0 => ?_)
  refine w_Model1 C hnm (fun u1 e1 => ?_)
  refine w_Model2 C hnm (fun u2 e2 => ?_)
  refine w_Model3 C hnm (fun u3 e3 => ?_)
  refine w_Model4 C hnm (fun u4 e4 => ?_)
  refine w_Model5 C hnm (fun u5 e5 => ?_)
  exact kk u5 (by rw [e5, e4, e3, e2, e1, e0])
