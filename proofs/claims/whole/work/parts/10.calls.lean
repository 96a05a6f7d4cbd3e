/-! calls and answers -/
def rmK (k : Nat) : Room := { frames := k + 8, cells := 0, slots := 0, locals := 60 * k + 500 }
def wsM (y : Nat) : List Cond := Cond.code (mn y) (cd y) (mxl y) (rt y) :: Tg
def ro (ad : Nat × Nat → Nat) (v : AV) : Option Value := if isU v = true then none else some (cv ad v)
def QcK (D : va_G) (ad : Nat × Nat → Nat) (cA : Nat → ClassId) (void : Bool) (K : AV → AM → Prop) : Array Value → State → Outcome → State → Prop := fun _ st oc t => (∃ (v : AV) (σ' : AM), oc = .returned (ro ad v) ∧ isU v = void ∧ K v σ' ∧ vv v ∧ va_P D clA (wsA ad cA σ') t.heap) ∧ va_F (AA ad) st t
/-- a call of a method at a level of the room, from a memory, comes back as 'K' says -/
def CALLm (l : Launch) (D : va_G) (ad : Nat × Nat → Nat) (cA : Nat → ClassId) (r y : Nat) (args : List AV) (σ : AM) (K : AV → AM → Prop) : Prop :=
  AllV args → argW args ≤ mxl y → Met l (mn y) (wsM y) (rmK r) (va_Pc (args.map (cv ad)) (fun U => va_P D clA (wsA ad cA σ) U.heap ∧ va_K D clA (tysA cA) U ∧ SW ad U U.heap)) (QcK D ad cA (rt y).isNone K) 0 0 (AA ad)
theorem argW_sl {ad : Nat × Nat → Nat} : ∀ l : List AV, (lg_sl (l.map (cv ad))).length = argW l
  | [] => rfl
  | v :: r => by
    have ih := argW_sl (ad := ad) r
    show (lg_sl (cv ad v :: r.map (cv ad))).length = _
    rw [argW, ← ih]
    unfold lg_sl
    rw [List.flatMap_cons, List.length_append]
    congr 1
    rcases v with x | x | ⟨t, i⟩ <;> rfl
theorem ent_in {ad : Nat × Nat → Nat} : ∀ (n : Nat) (a : List AV) (i : Nat) (q : Nat × Value), q ∈ lvc ad i (ent n a) → q ∈ lv_args i (a.map (cv ad))
  | 0, a, i, q, h => by simp [ent, lvc] at h
  | n + 1, [], i, q, h => by
    rw [ent, lvc] at h
    exact ent_in n [] (i + 1) q h
  | n + 1, .inl x :: r, i, q, h => by
    rw [ent, lvc] at h
    rcases List.mem_cons.mp h with h | h
    · rw [h]; exact List.mem_cons_self
    · exact List.mem_cons_of_mem _ (ent_in n r (i + 1) q h)
  | n + 1, .inr (.inr p) :: r, i, q, h => by
    rw [ent, lvc] at h
    have key : q ∈ lvc ad (i + 1) (ent n r) → q ∈ lv_args i ((.inr (.inr p) :: r).map (cv ad)) := fun h => List.mem_cons_of_mem _ (ent_in n r (i + 1) q h)
    cases hu : isU (.inr (.inr p)) with
    | true => rw [hu] at h; exact key h
    | false =>
      rw [hu] at h
      rcases List.mem_cons.mp h with h | h
      · rw [h]; exact List.mem_cons_self
      · exact key h
  | 1, .inr (.inl x) :: r, i, q, h => by
    rw [ent, lvc] at h
    rcases List.mem_cons.mp h with h | h
    · rw [h]; exact List.mem_cons_self
    · simp [lvc] at h
  | n + 2, .inr (.inl x) :: r, i, q, h => by
    rw [ent, lvc] at h
    rcases List.mem_cons.mp h with h | h
    · rw [h]; exact List.mem_cons_self
    · exact List.mem_cons_of_mem _ (ent_in n r (i + 2) q h)
theorem ent_vv : ∀ (n : Nat) (a : List AV), AllV a → AllV (ent n a)
  | 0, a, h => by rw [ent]; exact AllV.nil
  | n + 1, [], h => by rw [ent]; exact AllV.cons (Or.inl ⟨rfl, rfl⟩) (ent_vv n [] h)
  | n + 1, .inl x :: r, h => by rw [ent]; exact AllV.cons trivial (ent_vv n r h.tl)
  | n + 1, .inr (.inr p) :: r, h => by rw [ent]; exact AllV.cons h.hd (ent_vv n r h.tl)
  | 1, .inr (.inl x) :: r, h => by rw [ent]; exact AllV.cons trivial AllV.nil
  | n + 2, .inr (.inl x) :: r, h => by rw [ent]; exact AllV.cons trivial (AllV.cons (Or.inl ⟨rfl, rfl⟩) (ent_vv n r h.tl))
theorem cat_len (ad : Nat × Nat → Nat) : ∀ st : List AV, ((st.map (cv ad)).map fun v => v.category).sum ≤ 2 * st.length
  | [] => Nat.le_refl 0
  | v :: r => by
    have ih := cat_len ad r
    have h : (cv ad v).category ≤ 2 := by rw [isL_cat]; split <;> omega
    simp only [List.map_cons, List.sum_cons, List.length_cons]
    omega
theorem SW.nest {ad : Nat × Nat → Nat} {U : State} {H : Heap} (h : SW ad U H) {own : String} {idx : Nat} {y : MethodName} (hq : (own, idx, y) ∈ NWL) : va_Nw (.methodLinkNest own idx y "SilentTurn") U := by
  obtain ⟨adV, h1, h2, h3, h4, h5⟩ := h
  exact h5 _ hq
section SND3
variable {p : Program} {l : Launch} {e : Env} {R : Room} {s : State} {m : MethodId} {args : Array Value} {below : List Frame} {meth : Method} {c : Code} {Q : State → Prop} {cc : ByteArray} {D : va_G} {ad : Nat × Nat → Nat} {cA : Nat → ClassId} {nL pc : Nat} {own : String} {lv st : List AV} {σ : AM} {K : AV → AM → Prop}
theorem va_callK {H : Heap} {locs : List Loc} {ls : Array Slot} {st0 rest : List Value} {a : Array Value} {void : Bool} (hr : va_Run p l e R s m args below meth c H locs 0 0 0 0 (F0 m pc ls st0) rest (QcK D ad cA void K a) (AA ad)) (hS : va_S (AA ad) s.heap H locs)
    (kk : ∀ (v : AV) (σ' : AM) (H1 : Heap) (locs1 : List Loc), isU v = void → K v σ' → vv v → va_P D clA (wsA ad cA σ') H1 → va_S (AA ad) s.heap H1 locs1 → W p l e R s m args below meth c H1 locs1 0 0 Q (F0 m (pc + 3) ls ((ro ad v).toList ++ rest))) : W p l e R s m args below meth c H locs 0 0 Q (F0 m pc ls st0) := by
  intro T hT X
  obtain ⟨v, st₀, t, T', L, h0, X', hL, e1, e2, ⟨⟨av, σ', hv, hu, hK, hvv, hP⟩, hz, hk⟩, st⟩ := hr T hT X
  have hv : v = ro ad av := Outcome.returned.inj hv
  subst hv
  rw [h0] at hz hk
  obtain ⟨t2, a1, b1⟩ := kk av σ' T'.heap (locs ++ L) hu hK hvv (by rw [e1]; exact hP)
    ⟨Nat.le_trans hS.1 (by rw [e1]; exact hz), fun q h1 h2 => by rw [e1, hk q (Nat.lt_of_lt_of_le h1 hS.1) h2]; exact hS.2.1 q h1 h2, fun q hq => by
      rcases List.mem_append.mp hq with h | h
      · exact hS.2.2 q h
      · exact hL q h⟩ T' rfl X'
  exact ⟨t2, st t2 a1, b1⟩
/-- what a call hands over holds in the callee's start -/
theorem pre_ok {H : Heap} {locs : List Loc} (C : Cx p s m args c cc D ad cA nL own) (hP : va_P D clA (wsA ad cA σ) H) (hS : va_S (AA ad) s.heap H locs) : ∀ U : State, U.heap = H → s.WarmedH U.vm → (va_P D clA (wsA ad cA σ) U.heap ∧ va_K D clA (tysA cA) U ∧ SW ad U U.heap) := by
  intro U hU hW
  refine ⟨by rw [hU]; exact hP, va_K.moved hW.alike C.2.2.2.2.2.1, ?_⟩
  rw [hU]
  exact SW.warm hW (C.2.2.2.2.2.2.2.kept hS.2.1)
theorem pre_blind {as : List Value} : FrameBlind (va_Pc as (fun U => va_P D clA (wsA ad cA σ) U.heap ∧ va_K D clA (tysA cA) U ∧ SW ad U U.heap)) := by
  intro a U g mk h
  obtain ⟨h1, h2, h3, h4⟩ := h
  exact ⟨h1, h2, va_K.moved (u := U) (U := U.calling g mk a) (Vm.Alike.refl U.vm) h3, SW.same (u := U) rfl h4⟩
/-- the words of a callee: its code is among the tables' -/
theorem wsM_in {y : Nat} (h : Cond.code (mn y) (cd y) (mxl y) (rt y) ∈ Tg) : ∀ w ∈ wsM y, w ∈ Tg := fun w hw => (List.mem_cons.mp hw).elim (fun e => e ▸ h) id
/-- what is known of a method by the tables -/
def YOk (y : Nat) : Prop := Cond.code (mn y) (cd y) (mxl y) (rt y) ∈ Tg ∧ Cond.initialized (mn y).cls ∈ Tg ∧ ((mn y).cls ≠ "java/lang/invoke/MethodHandle" ∧ (mn y).cls ≠ "java/lang/invoke/VarHandle") ∧ mxl y ≤ 40
theorem callB_m {r y idx n : Nat} (C : Cx p s m args c cc D ad cA nL own) (hy : YOk y) (hn : (parseMethodDescriptor (mn y).desc).map (fun d => d.parameters.length) = some n) (hl : Cond.methodLink own idx (mn y) ∈ Tg) : CallB (rmK (r + 1)) s args own idx (mn y) (cd y) (mxl y) (rt y) (wsM y) (rmK r) 0 0 n := by
  obtain ⟨h1, h2, h3, h4⟩ := hy
  exact callB_of n C.2.2.2.2.1 (goodT (wsM_in h1)) rfl rfl rfl (C.2.2.2.2.1 _ h2) (C.2.2.2.2.1 _ hl) ⟨h3.1, h3.2, hn⟩ ⟨by show r + 8 + 1 ≤ r + 1 + 8; omega, by show 8 + (mxl y + 11) + (60 * r + 500) ≤ 60 * (r + 1) + 500; omega⟩
theorem g_callV {r y idx n t i cI : Nat} {As : List AV} (C : Cx p s m args c cc D ad cA nL own) (hd : decode cc pc = .ok (.invokevirtual idx, 3)) (hy : YOk y) (hn : (parseMethodDescriptor (mn y).desc).map (fun d => d.parameters.length) = some n) (hAs : As.length = n) (hl : Cond.methodLink own idx (mn y) ∈ Tg) (hi1 : Cond.instanceMethod (mn y) ∈ Tg) (hs1 : Cond.selects (mn y).cls (mn y) (mn y) ∈ Tg)
    (hc : cI < 13) (hsh : sh t = (0, cI)) (hrn : RN cI = (mn y).cls) (hst : st.length ≤ 4) (hw : argW (.inr (.inr (t, i)) :: As) ≤ mxl y)
    (h : CALLm l D ad cA r y (.inr (.inr (t, i)) :: As) σ (fun v σ' => Gd p l e (rmK (r + 1)) s m args below meth c nL Q D ad cA (pc + 3) lv (if (rt y).isNone then st else v :: st) σ')) : Gd p l e (rmK (r + 1)) s m args below meth c nL Q D ad cA pc lv (As.reverse ++ .inr (.inr (t, i)) :: st) σ := by
  intro hlv hsv H locs ls hP hS hv
  have hsv2 : AllV (As ++ .inr (.inr (t, i)) :: st) := fun w hw => hsv w (by
    rcases List.mem_append.mp hw with h | h
    · exact List.mem_append.mpr (Or.inl (List.mem_reverse.mpr h))
    · exact List.mem_append.mpr (Or.inr h))
  have hvAs : AllV As := fun w hw => hsv2 w (List.mem_append.mpr (Or.inl hw))
  have hvr : AllV (.inr (.inr (t, i)) :: st) := fun w hw => hsv2 w (List.mem_append.mpr (Or.inr hw))
  obtain ⟨ht, hi⟩ := vld hvr.hd (by rw [hsh]; simp)
  have he : (wsA ad cA σ)[ps t + i]? = some (ad (t, i), .inr (cI, flds ad σ t i cI)) := by rw [wsA_at ht hi]; simp [cellOf, hsh]
  have hM := h (AllV.cons hvr.hd hvAs) hw
  have hcw : CallW (rmK (r + 1)) s args own (mn y).cls idx (mn y) (cd y) (mxl y) (rt y) (wsM y) (rmK r) 0 0 n := ⟨callB_m C hy hn hl, C.2.2.2.2.1 _ hi1, C.2.2.2.2.1 _ hs1⟩
  have hrun := va_runV (p := p) (e := e) (below := below) (meth := meth) (locs := locs) (cells := 0) (slots := 0) (b := ad (t, i)) (As := As.map (cv ad)) (rest := st.map (cv ad)) (g := F0 m pc ls ((As.reverse ++ .inr (.inr (t, i)) :: st).map (cv ad))) (H := H) (Ts := Tg) (nL := nL) ⟨C.1, C.2.1, C.2.2.2.1, C.2.2.1, C.2.2.2.2.1⟩ hM hcw
    ⟨pre_blind, by rw [← hrn]; exact va_recv C.2.2.2.2.2.1 hP (clA_at cI hc) he, fun U hU hW => ⟨rfl, pre_ok C hP hS U hU hW⟩⟩ rfl (by rw [List.length_map]; exact hAs) hv.1 (by show List.map _ _ = _; rw [List.map_append, List.map_reverse]; rfl) (lv_room (Nat.le_trans (cat_len ad st) (by omega))) hd ⟨Nat.le_refl _, Nat.le_refl _⟩
  refine va_callK hrun hS (fun v σ' H1 locs1 hu hk hvv hP1 hS1 => ?_)
  by_cases hv0 : (rt y).isNone = true
  · rw [if_pos hv0] at hk
    have e0 : ro ad v = none := by unfold ro; rw [if_pos (hu.trans hv0)]
    rw [e0]
    exact hk hlv hvr.tl H1 locs1 ls hP1 hS1 hv
  · rw [if_neg hv0] at hk
    have e0 : ro ad v = some (cv ad v) := by unfold ro; rw [if_neg (fun z => hv0 (hu.symm.trans z))]
    rw [e0]
    exact hk hlv (AllV.cons hvv hvr.tl) H1 locs1 ls hP1 hS1 hv
theorem g_callS {r y idx n : Nat} {As : List AV} (C : Cx p s m args c cc D ad cA nL own) (hd : decode cc pc = .ok (.invokestatic idx, 3)) (hy : YOk y) (hn : (parseMethodDescriptor (mn y).desc).map (fun d => d.parameters.length) = some n) (hAs : As.length = n) (hl : Cond.methodLink own idx (mn y) ∈ Tg ∨ (own, idx, mn y) ∈ NWL) (hi1 : Cond.static (mn y) ∈ Tg)
    (hst : st.length ≤ 4) (hw : argW As ≤ mxl y)
    (h : CALLm l D ad cA r y As σ (fun v σ' => Gd p l e (rmK (r + 1)) s m args below meth c nL Q D ad cA (pc + 3) lv (if (rt y).isNone then st else v :: st) σ')) : Gd p l e (rmK (r + 1)) s m args below meth c nL Q D ad cA pc lv (As.reverse ++ st) σ := by
  intro hlv hsv H locs ls hP hS hv
  have hvAs : AllV As := fun w hw => hsv w (List.mem_append.mpr (Or.inl (List.mem_reverse.mpr hw)))
  have hvr : AllV st := fun w hw => hsv w (List.mem_append.mpr (Or.inr hw))
  have hM := h hvAs hw
  have hrun : va_Run p l e (rmK (r + 1)) s m args below meth c H locs 0 0 0 0 (F0 m pc ls ((As.reverse ++ st).map (cv ad))) (st.map (cv ad)) (QcK D ad cA (rt y).isNone (fun v σ' => Gd p l e (rmK (r + 1)) s m args below meth c nL Q D ad cA (pc + 3) lv (if (rt y).isNone then st else v :: st) σ') (As.map (cv ad)).toArray) (AA ad) := by
    have hstk : (F0 m pc ls ((As.reverse ++ st).map (cv ad))).stack = (As.map (cv ad)).reverse ++ st.map (cv ad) := by show List.map _ _ = _; rw [List.map_append, List.map_reverse]
    rcases hl with hl | hl
    · exact va_runS (Ts := Tg) (nL := nL) ⟨C.1, C.2.1, C.2.2.2.1, C.2.2.1, C.2.2.2.2.1⟩ hM ⟨callB_m C hy hn hl, C.2.2.2.2.1 _ hi1⟩ ⟨pre_blind, fun U hU hW => ⟨rfl, pre_ok C hP hS U hU hW⟩⟩ rfl (by rw [List.length_map]; exact hAs) hv.1 hstk (lv_room (Nat.le_trans (cat_len ad st) (by omega))) hd ⟨Nat.le_refl _, Nat.le_refl _⟩
    · obtain ⟨h1, h2, h3, h4⟩ := hy
      have hcn : va_CN (rmK (r + 1)) s args own idx (mn y) "SilentTurn" (cd y) (mxl y) (rt y) (wsM y) (rmK r) 0 0 n := va_cnB n C.2.2.2.2.1 (goodT (wsM_in h1)) rfl rfl rfl (C.2.2.2.2.2.2.2.nest hl) (C.2.2.2.2.1 _ h2) ⟨h3.1, h3.2, hn⟩ ⟨by show r + 8 + 1 ≤ r + 1 + 8; omega, by show 8 + (mxl y + 11) + (60 * r + 500) ≤ 60 * (r + 1) + 500; omega⟩
      exact va_runSN (Ts := Tg) (nL := nL) ⟨C.1, C.2.1, C.2.2.2.1, C.2.2.1, C.2.2.2.2.1⟩ hM ⟨hcn, C.2.2.2.2.1 _ hi1, trivial⟩ ⟨pre_blind, fun U hU hW => ⟨rfl, pre_ok C hP hS U hU hW⟩⟩ rfl (by rw [List.length_map]; exact hAs) hv.1 hstk (lv_room (Nat.le_trans (cat_len ad st) (by omega))) hd ⟨Nat.le_refl _, Nat.le_refl _⟩
  refine va_callK hrun hS (fun v σ' H1 locs1 hu hk hvv hP1 hS1 => ?_)
  by_cases hv0 : (rt y).isNone = true
  · rw [if_pos hv0] at hk
    have e0 : ro ad v = none := by unfold ro; rw [if_pos (hu.trans hv0)]
    rw [e0]
    exact hk hlv hvr H1 locs1 ls hP1 hS1 hv
  · rw [if_neg hv0] at hk
    have e0 : ro ad v = some (cv ad v) := by unfold ro; rw [if_neg (fun z => hv0 (hu.symm.trans z))]
    rw [e0]
    exact hk hlv (AllV.cons hvv hvr) H1 locs1 ls hP1 hS1 hv
theorem nfw : nativeFrameWords "java/lang/System" "arraycopy" 5 ≤ 200 := by decide
theorem g_copyI {r t0 i0 t1 i1 n0 n1 idx : Nat} {sp dp n : Int32} (C : Cx p s m args c cc D ad cA nL own) (hd : decode cc pc = .ok (.invokestatic idx, 3)) (hln : Cond.methodLink own idx arraycopyName ∈ Tg) (hh : Cond.native arraycopyName ∈ Tg ∧ Cond.static arraycopyName ∈ Tg ∧ Cond.initialized "java/lang/System" ∈ Tg) (hs0 : sh t0 = (1, n0)) (hs1 : sh t1 = (1, n1)) (hst : st.length ≤ 4)
    (ho : ¬ sp < 0 ∧ ¬ dp < 0 ∧ ¬ n < 0 ∧ sp.toNatClampNeg + n.toNatClampNeg ≤ n0 ∧ dp.toNatClampNeg + n.toNatClampNeg ≤ n1) (kk : Gd p l e (rmK (r + 1)) s m args below meth c nL Q D ad cA (pc + 3) lv st (cpI σ t0 i0 t1 i1 sp.toNatClampNeg dp.toNatClampNeg n.toNatClampNeg)) : Gd p l e (rmK (r + 1)) s m args below meth c nL Q D ad cA pc lv (.inl n :: .inl dp :: .inr (.inr (t1, i1)) :: .inl sp :: .inr (.inr (t0, i0)) :: st) σ := by
  intro hl hs H locs ls hP hS hv
  obtain ⟨hx, hb, hown, hml, hts, hK, hA, hW⟩ := C
  obtain ⟨ht1, hi1⟩ := vld hs.tl.tl.hd (by rw [hs1]; simp)
  obtain ⟨ht0, hi0⟩ := vld hs.tl.tl.tl.tl.hd (by rw [hs0]; simp)
  obtain ⟨o1, o2, o3, o4, o5⟩ := ho
  have hc := cat_len ad st
  have hnf := nfw
  refine va_copyi hx hb (hml.trans hv.1.symm) hown (hts _ hln) (hts _ hh.1) (hts _ hh.2.1) (hts _ hh.2.2) hK hP (wsA_D hA) hS (ps t0 + i0) (ps t1 + i1) 0 0 (c0 := cA 1) (c1 := cA 1) (n0 := n0) (n1 := n1) (f := σ.1 t0 i0) (g := σ.1 t1 i1) (ty := .int) (by rw [wsA_at ht0 hi0]; simp [cellOf, hs0]) (by rw [wsA_at ht1 hi1]; simp [cellOf, hs1]) rfl rfl rfl o1 o2 o3 o4 o5 (fun _ _ => rfl) (by show 1 ≤ r + 1 + 8; omega) (by show _ ≤ 60 * (r + 1) + 500; omega) hd (fun H1 locs1 hP1 _ hS1 => ?_)
  rw [wsA_set (σ' := cpI σ t0 i0 t1 i1 sp.toNatClampNeg dp.toNatClampNeg n.toNatClampNeg) ht1 hi1 (by simp [cellOf, hs1, cpy_cpI]) (cpI_ne _ _ _ _ _ _ _ _)] at hP1
  exact kk hl hs.tl.tl.tl.tl.tl H1 locs1 ls hP1 hS1 hv
theorem g_copyL {r t0 i0 t1 i1 n0 n1 idx : Nat} {sp dp n : Int32} (C : Cx p s m args c cc D ad cA nL own) (hd : decode cc pc = .ok (.invokestatic idx, 3)) (hln : Cond.methodLink own idx arraycopyName ∈ Tg) (hh : Cond.native arraycopyName ∈ Tg ∧ Cond.static arraycopyName ∈ Tg ∧ Cond.initialized "java/lang/System" ∈ Tg) (hs0 : sh t0 = (2, n0)) (hs1 : sh t1 = (2, n1)) (hst : st.length ≤ 4)
    (ho : ¬ sp < 0 ∧ ¬ dp < 0 ∧ ¬ n < 0 ∧ sp.toNatClampNeg + n.toNatClampNeg ≤ n0 ∧ dp.toNatClampNeg + n.toNatClampNeg ≤ n1) (kk : Gd p l e (rmK (r + 1)) s m args below meth c nL Q D ad cA (pc + 3) lv st (cpL σ t0 i0 t1 i1 sp.toNatClampNeg dp.toNatClampNeg n.toNatClampNeg)) : Gd p l e (rmK (r + 1)) s m args below meth c nL Q D ad cA pc lv (.inl n :: .inl dp :: .inr (.inr (t1, i1)) :: .inl sp :: .inr (.inr (t0, i0)) :: st) σ := by
  intro hl hs H locs ls hP hS hv
  obtain ⟨hx, hb, hown, hml, hts, hK, hA, hW⟩ := C
  obtain ⟨ht1, hi1⟩ := vld hs.tl.tl.hd (by rw [hs1]; simp)
  obtain ⟨ht0, hi0⟩ := vld hs.tl.tl.tl.tl.hd (by rw [hs0]; simp)
  obtain ⟨o1, o2, o3, o4, o5⟩ := ho
  have hc := cat_len ad st
  have hnf := nfw
  refine va_copyl hx hb (hml.trans hv.1.symm) hown (hts _ hln) (hts _ hh.1) (hts _ hh.2.1) (hts _ hh.2.2) hK hP (wsA_D hA) hS (ps t0 + i0) (ps t1 + i1) 1 1 (c0 := cA 2) (c1 := cA 2) (n0 := n0) (n1 := n1) (f := σ.2.1 t0 i0) (g := σ.2.1 t1 i1) (ty := .long) (by rw [wsA_at ht0 hi0]; simp [cellOf, hs0]) (by rw [wsA_at ht1 hi1]; simp [cellOf, hs1]) rfl rfl rfl o1 o2 o3 o4 o5 (fun _ _ => rfl) (by show 1 ≤ r + 1 + 8; omega) (by show _ ≤ 60 * (r + 1) + 500; omega) hd (fun H1 locs1 hP1 _ hS1 => ?_)
  rw [wsA_set (σ' := cpL σ t0 i0 t1 i1 sp.toNatClampNeg dp.toNatClampNeg n.toNatClampNeg) ht1 hi1 (by simp [cellOf, hs1, cpy_cpL]) (cpL_ne _ _ _ _ _ _ _ _)] at hP1
  exact kk hl hs.tl.tl.tl.tl.tl H1 locs1 ls hP1 hS1 hv
theorem g_ldc {idx : Nat} {v : Int32} (C : Cx p s m args c cc D ad cA nL own) (hd : decode cc pc = .ok (.ldc idx, 2)) (hw : Cond.constant own idx v ∈ Tg) (k : Gd p l e R s m args below meth c nL Q D ad cA (pc + 2) lv (.inl v :: st) σ) : Gd p l e R s m args below meth c nL Q D ad cA pc lv st σ := by
  intro hl hs H locs ls hP hS hv
  exact lv_ldc C.1 C.2.1 C.2.2.1 (C.2.2.2.2.1 _ hw) hd (k hl (AllV.cons trivial hs) H locs ls hP hS hv)
theorem g_ldcw {idx : Nat} {v : Int32} (C : Cx p s m args c cc D ad cA nL own) (hd : decode cc pc = .ok (.ldc_w idx, 3)) (hw : Cond.constant own idx v ∈ Tg) (k : Gd p l e R s m args below meth c nL Q D ad cA (pc + 3) lv (.inl v :: st) σ) : Gd p l e R s m args below meth c nL Q D ad cA pc lv st σ := by
  intro hl hs H locs ls hP hS hv
  exact lv_ldcw C.1 C.2.1 C.2.2.1 (C.2.2.2.2.1 _ hw) hd (k hl (AllV.cons trivial hs) H locs ls hP hS hv)
theorem g_ldc2 {idx : Nat} {v : Int64} (C : Cx p s m args c cc D ad cA nL own) (hd : decode cc pc = .ok (.ldc2_w idx, 3)) (hw : Cond.constantLong own idx v ∈ Tg) (k : Gd p l e R s m args below meth c nL Q D ad cA (pc + 3) lv (.inr (.inl v) :: st) σ) : Gd p l e R s m args below meth c nL Q D ad cA pc lv st σ := by
  intro hl hs H locs ls hP hS hv
  exact lv_ldc2 C.1 C.2.1 C.2.2.1 (C.2.2.2.2.1 _ hw) hd (k hl (AllV.cons trivial hs) H locs ls hP hS hv)
theorem g_ireturn {x : Int32} (C : Cx p s m args c cc D ad cA nL own) (hlocks : meth.locks = false) (hr : meth.sig.returnType = some .int) (hd : decode cc pc = .ok (.ireturn, 1)) (hk : K (.inl x) σ) : Gd p l e R s m args below meth c nL (MQ below (QcK D ad cA false K) args s 0 0 (AA ad)) D ad cA pc lv [.inl x] σ := by
  intro hl hs H locs ls hP hS hv
  exact W.iret C.1 C.2.1 hr (fun t ht _ => ⟨⟨.inl x, σ, rfl, rfl, hk, trivial, by rw [ht]; exact hP⟩, hS.F ht⟩) hS.2.2 hd hlocks
theorem g_zreturn {x : Int32} (C : Cx p s m args c cc D ad cA nL own) (hlocks : meth.locks = false) (hr : meth.sig.returnType = some .boolean) (hd : decode cc pc = .ok (.ireturn, 1)) (h01 : x = 0 ∨ x = 1) (hk : K (.inl x) σ) : Gd p l e R s m args below meth c nL (MQ below (QcK D ad cA false K) args s 0 0 (AA ad)) D ad cA pc lv [.inl x] σ := by
  intro hl hs H locs ls hP hS hv
  exact W.zret C.1 C.2.1 hr (nar_bool h01).2.1 (fun t ht _ => ⟨⟨.inl x, σ, rfl, rfl, hk, trivial, by rw [ht]; exact hP⟩, hS.F ht⟩) hS.2.2 hd hlocks
theorem g_lreturn {x : Int64} (C : Cx p s m args c cc D ad cA nL own) (hlocks : meth.locks = false) (hr : meth.sig.returnType = some .long) (hd : decode cc pc = .ok (.lreturn, 1)) (hk : K (.inr (.inl x)) σ) : Gd p l e R s m args below meth c nL (MQ below (QcK D ad cA false K) args s 0 0 (AA ad)) D ad cA pc lv [.inr (.inl x)] σ := by
  intro hl hs H locs ls hP hS hv
  exact W.lret C.1 C.2.1 hr (fun t ht _ => ⟨⟨.inr (.inl x), σ, rfl, rfl, hk, trivial, by rw [ht]; exact hP⟩, hS.F ht⟩) hS.2.2 hd hlocks
theorem g_areturn {t i : Nat} {nm : String} (C : Cx p s m args c cc D ad cA nL own) (hlocks : meth.locks = false) (hr : meth.sig.returnType = some (.object nm)) (hd : decode cc pc = .ok (.areturn, 1)) (h0 : isU (.inr (.inr (t, i))) = false) (hk : K (.inr (.inr (t, i))) σ) : Gd p l e R s m args below meth c nL (MQ below (QcK D ad cA false K) args s 0 0 (AA ad)) D ad cA pc lv [.inr (.inr (t, i))] σ := by
  intro hl hs H locs ls hP hS hv
  exact W.aret C.1 C.2.1 hr (Or.inl ⟨nm, rfl⟩) (Or.inr ⟨_, rfl⟩) (fun t' ht _ => ⟨⟨.inr (.inr (t, i)), σ, by unfold ro; rw [if_neg (by rw [h0]; simp)]; rfl, h0, hk, hs.hd, by rw [ht]; exact hP⟩, hS.F ht⟩) hS.2.2 hd hlocks
theorem g_return (C : Cx p s m args c cc D ad cA nL own) (hlocks : meth.locks = false) (hr : meth.sig.returnType = none) (hd : decode cc pc = .ok (.return_, 1)) (hk : K unset σ) : Gd p l e R s m args below meth c nL (MQ below (QcK D ad cA true K) args s 0 0 (AA ad)) D ad cA pc lv [] σ := by
  intro hl hs H locs ls hP hS hv
  exact W.vret C.1 C.2.1 hr (fun t ht _ => ⟨⟨unset, σ, rfl, rfl, hk, Or.inl ⟨rfl, rfl⟩, by rw [ht]; exact hP⟩, hS.F ht⟩) hS.2.2 hd hlocks
end SND3
