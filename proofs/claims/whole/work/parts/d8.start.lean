/-! what stands at the law's entry -/
def tmW : Nat → Term
  | 0 => .string "SilentTurn$Tape" 26
  | _ => .string "SilentTurnModel" 187
def FLW : List Cond := flatC (Jvm.Cond.and given_1 narrow_1)
def o_1 : Nat → Nat
  | 0 => 48
  | _ => 185
theorem fw_ex : ∀ i, i < 2 → FLW[o_1 i]? = some (.exactly (tmW i) "java/lang/String") ∧ FLW[o_1 i + 1]? = some (.eq (.field (tmW i) "java/lang/String" "coder" "B") (.int 0)) ∧ FLW[o_1 i + 2]? = some (.arrayOf (.field (tmW i) "java/lang/String" "value" "[B") .byte) ∧ FLW[o_1 i + 3]? = some (.eq (.length (.field (tmW i) "java/lang/String" "value" "[B")) (.int (Int32.ofNat (lenS.getD i 0)))) := by decide +kernel
theorem fw_el : ∀ i, i < 2 → ∀ j, j < lenS.getD i 0 → FLW[o_1 i + 4 + j]? = some (.eq (.elem (.field (tmW i) "java/lang/String" "value" "[B") (.int (Int32.ofNat j))) (.int ((bytS.getD i []).getD j 0))) := by decide +kernel
theorem fw_ne : FLW[323]? = some (.not (.eq (tmW 0) (tmW 1))) ∧ FLW[4]? = some (.eq (.static "java/lang/String" "COMPACT_STRINGS" "Z") (.int 1)) ∧ FLW[5]? = some (.isRef (.static "jdk/internal/util/Preconditions" "SIOOBE_FORMATTER" "Ljava/util/function/BiFunction;")) := by decide +kernel
theorem NWL_in : ∀ q ∈ NWL, Cond.methodLinkNest q.1 q.2.1 q.2.2 "SilentTurn" ∈ lw_tbl := by
  unfold NWL
  refine List.forall_mem_cons.mpr ⟨in_t1 (List.mem_of_getElem? (i := 189) rfl), ?_⟩
  refine List.forall_mem_cons.mpr ⟨in_t1 (List.mem_of_getElem? (i := 195) rfl), ?_⟩
  refine List.forall_mem_cons.mpr ⟨in_t1 (List.mem_of_getElem? (i := 225) rfl), ?_⟩
  refine List.forall_mem_cons.mpr ⟨in_t2 (List.mem_of_getElem? (i := 129) rfl), ?_⟩
  refine List.forall_mem_cons.mpr ⟨in_t2 (List.mem_of_getElem? (i := 147) rfl), ?_⟩
  refine List.forall_mem_cons.mpr ⟨in_t2 (List.mem_of_getElem? (i := 192) rfl), ?_⟩
  refine List.forall_mem_cons.mpr ⟨in_t2 (List.mem_of_getElem? (i := 194) rfl), ?_⟩
  refine List.forall_mem_cons.mpr ⟨in_t3 (List.mem_of_getElem? (i := 3) rfl), ?_⟩
  refine List.forall_mem_cons.mpr ⟨in_t3 (List.mem_of_getElem? (i := 217) rfl), ?_⟩
  refine List.forall_mem_cons.mpr ⟨in_t4 (List.mem_of_getElem? (i := 27) rfl), ?_⟩
  refine List.forall_mem_cons.mpr ⟨in_t4 (List.mem_of_getElem? (i := 39) rfl), ?_⟩
  refine List.forall_mem_cons.mpr ⟨in_t4 (List.mem_of_getElem? (i := 135) rfl), ?_⟩
  refine List.forall_mem_cons.mpr ⟨in_t4 (List.mem_of_getElem? (i := 138) rfl), ?_⟩
  refine List.forall_mem_cons.mpr ⟨in_t4 (List.mem_of_getElem? (i := 151) rfl), ?_⟩
  refine List.forall_mem_cons.mpr ⟨in_t4 (List.mem_of_getElem? (i := 199) rfl), ?_⟩
  refine List.forall_mem_cons.mpr ⟨in_t4 (List.mem_of_getElem? (i := 200) rfl), ?_⟩
  refine List.forall_mem_cons.mpr ⟨in_t4 (List.mem_of_getElem? (i := 211) rfl), ?_⟩
  refine List.forall_mem_cons.mpr ⟨in_t4 (List.mem_of_getElem? (i := 214) rfl), ?_⟩
  refine List.forall_mem_cons.mpr ⟨in_t5 (List.mem_of_getElem? (i := 185) rfl), ?_⟩
  refine List.forall_mem_cons.mpr ⟨in_t5 (List.mem_of_getElem? (i := 186) rfl), ?_⟩
  refine List.forall_mem_cons.mpr ⟨in_t5 (List.mem_of_getElem? (i := 215) rfl), ?_⟩
  refine List.forall_mem_cons.mpr ⟨in_t5 (List.mem_of_getElem? (i := 216) rfl), ?_⟩
  refine List.forall_mem_cons.mpr ⟨in_t6 (List.mem_of_getElem? (i := 8) rfl), ?_⟩
  refine List.forall_mem_cons.mpr ⟨in_t6 (List.mem_of_getElem? (i := 47) rfl), ?_⟩
  refine List.forall_mem_cons.mpr ⟨in_t6 (List.mem_of_getElem? (i := 50) rfl), ?_⟩
  refine List.forall_mem_cons.mpr ⟨in_t6 (List.mem_of_getElem? (i := 84) rfl), ?_⟩
  refine List.forall_mem_cons.mpr ⟨in_t6 (List.mem_of_getElem? (i := 97) rfl), ?_⟩
  exact fun _ h => absurd h List.not_mem_nil
section ST0
variable {s : State} {args : Array Value}
theorem fw_use (hg : (Jvm.Cond.and given_1 narrow_1).before args s = true) {k : Nat} {w : Cond} (h : FLW[k]? = some w) : w.before args s = true := flat_of_before _ hg w (List.mem_of_getElem? h)
theorem st_SW (hts : ∀ w ∈ lw_tbl, w.before args s = true) (hg : (Jvm.Cond.and given_1 narrow_1).before args s = true) : ∃ adK : Nat → Nat, SWc s.heap.size adK s s.heap := by
  have hA : ∀ a : Nat, a < s.heap.size → ¬ AN s.heap.size a := fun a h z => absurd z (Nat.not_le.mpr h)
  obtain ⟨adK, adV, h1, h2⟩ := vk_Sof (args := args) (s := s) (N := 2) (tm := tmW) (len := lenS) (byt := bytS) (A := AN s.heap.size) (by decide +kernel) (fun i hi => fw_use hg (fw_ex i hi).1) (fun i hi => fw_use hg (fw_ex i hi).2.1) (fun i hi => fw_use hg (fw_ex i hi).2.2.1) (fun i hi => fw_use hg (fw_ex i hi).2.2.2) (fun i hi j hj => fw_use hg (fw_el i hi j hj)) (fun i j hi hj hij => by
    have h01 := fw_use hg fw_ne.1
    rcases (show (i = 0 ∧ j = 1) ∨ (i = 1 ∧ j = 0) by omega) with ⟨rfl, rfl⟩ | ⟨rfl, rfl⟩
    · exact Or.inl h01
    · exact Or.inr h01) hA
  refine ⟨adK, adV, h1, ⟨vk_R.of (hts _ (in_t1 (List.mem_of_getElem? (i := 38) rfl))) (h2 0 (by omega)), vk_R.of (hts _ (in_t7 (List.mem_of_getElem? (i := 140) rfl))) (h2 1 (by omega))⟩, va_Zof (hts _ (in_t1 (List.mem_of_getElem? (i := 48) rfl))) (hts _ (in_t1 (List.mem_of_getElem? (i := 3) rfl))) (va_eqt (fw_use hg fw_ne.2.1)) hA, va_Zqof (hts _ (in_t1 (List.mem_of_getElem? (i := 64) rfl))) (hts _ (in_t1 (List.mem_of_getElem? (i := 5) rfl))) (fw_use hg fw_ne.2.2) hA, fun q hq => va_Nw.of rfl (hts _ (NWL_in q hq)), va_AO.of (hts _ (in_t1 (List.mem_of_getElem? (i := 31) rfl))), va_AO.of (hts _ (in_t1 (List.mem_of_getElem? (i := 178) rfl))), va_AO.of (hts _ (in_t1 (List.mem_of_getElem? (i := 180) rfl)))⟩

theorem ins_in : ∀ c, c < 13 → Cond.instantiable (RN c) (fkl c).length ∈ lw_tbl
  | 0, _ => in_t1 (List.mem_of_getElem? (i := 182) rfl)
  | 1, _ => in_t2 (List.mem_of_getElem? (i := 193) rfl)
  | 2, _ => in_t1 (List.mem_of_getElem? (i := 156) rfl)
  | 3, _ => in_t1 (List.mem_of_getElem? (i := 188) rfl)
  | 4, _ => in_t1 (List.mem_of_getElem? (i := 137) rfl)
  | 5, _ => in_t2 (List.mem_of_getElem? (i := 146) rfl)
  | 6, _ => in_t1 (List.mem_of_getElem? (i := 224) rfl)
  | 7, _ => in_t2 (List.mem_of_getElem? (i := 128) rfl)
  | 8, _ => in_t1 (List.mem_of_getElem? (i := 33) rfl)
  | 9, _ => in_t1 (List.mem_of_getElem? (i := 194) rfl)
  | 10, _ => in_t3 (List.mem_of_getElem? (i := 2) rfl)
  | 11, _ => in_t1 (List.mem_of_getElem? (i := 23) rfl)
  | 12, _ => in_t6 (List.mem_of_getElem? (i := 141) rfl)
  | n + 13, h => absurd h (by omega)
theorem st_arr {ty : FieldType} (h : (Cond.arrayClass ty).before args s = true) (hra : ∀ c, s.vm.findClass ("[" ++ ty.toString) = some c → va_RA s c ty) : ∃ c : ClassId, ArrOfT s c ty ∧ va_RA s c ty := by
  obtain ⟨c, kA, comp, h1, h2, h3⟩ := Cond.arrayClass_spec h
  exact ⟨c, fun n z => ⟨fun k h => (by cases h), kA, h2, comp, h3⟩, hra c h1⟩
theorem st_arq {C : String} (h : (Cond.arrayOver (.object C)).before args s = true) : ∃ c : ClassId, ArrOfT s c (.object C) ∧ va_RA s c (.object C) := by
  obtain ⟨comp, c, kA, h1, -, h2, h3, h4⟩ := Cond.arrayOver_spec h
  exact ⟨c, fun n z => ⟨fun k h => (by cases h), kA, h2, comp, h3⟩, kA, comp, h2, h3, h1, h4⟩
theorem st_K (hts : ∀ w ∈ lw_tbl, w.before args s = true) : ∃ (D : va_G) (cA : Nat → ClassId), va_K D clA (tysA cA) s := by
  have hc : ∀ c : Nat, ∃ q : ClassId × (Nat → Nat), c < 13 → u_Kn s (RN c) (TT c) (fkl c).length q.1 q.2 := by
    intro c
    by_cases h : c < 13
    · obtain ⟨cC, iS, k⟩ := u_known hts (iTT c h) (hts _ (ins_in c h))
      exact ⟨(cC, iS), fun _ => k⟩
    · exact ⟨(0, fun _ => 0), fun z => absurd z h⟩
  obtain ⟨f, hf⟩ := Classical.axiomOfChoice hc
  obtain ⟨c1, a1⟩ := st_arr (ty := .int) (hts _ (in_t1 (List.mem_of_getElem? (i := 133) rfl))) (fun _ h => h)
  obtain ⟨c2, a2⟩ := st_arr (ty := .long) (hts _ (in_t1 (List.mem_of_getElem? (i := 134) rfl))) (fun _ h => h)
  obtain ⟨c3, a3⟩ := st_arr (ty := .byte) (hts _ (in_t1 (List.mem_of_getElem? (i := 135) rfl))) (fun _ h => h)
  obtain ⟨c4, a4⟩ := st_arr (ty := .boolean) (hts _ (in_t7 (List.mem_of_getElem? (i := 52) rfl))) (fun _ h => h)
  obtain ⟨c5, a5⟩ := st_arq (C := RX10) (hts _ (in_t1 (List.mem_of_getElem? (i := 31) rfl)))
  obtain ⟨c6, a6⟩ := st_arq (C := RX3) (hts _ (in_t1 (List.mem_of_getElem? (i := 178) rfl)))
  obtain ⟨c7, a7⟩ := st_arq (C := RX1) (hts _ (in_t1 (List.mem_of_getElem? (i := 180) rfl)))
  refine ⟨(fun c => (f c).1, fun c => (f c).2), fun k => match k with | 1 => c1 | 2 => c2 | 3 => c3 | 4 => c4 | 5 => c5 | 6 => c6 | _ => c7, fun c q hq => ?_, fun k q hk => ?_⟩
  · have hl : c < 13 := (List.getElem?_eq_some_iff.mp hq).1
    rw [clA_at c hl] at hq
    cases hq
    exact hf c hl
  · match k, hk with
    | 0, hk => cases hk; exact a1
    | 1, hk => cases hk; exact a2
    | 2, hk => cases hk; exact a3
    | 3, hk => cases hk; exact a4
    | 4, hk => cases hk; exact a5
    | 5, hk => cases hk; exact a6
    | 6, hk => cases hk; exact a7
    | k + 7, hk => cases hk
end ST0

