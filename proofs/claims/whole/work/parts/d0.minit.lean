/-! the reference's constructor: at its end both begin alike -/
section CLM
variable {p : Program} {l : Launch} {e : Env} {R : Room} {s : State} {m : MethodId} {args : Array Value} {below : List Frame} {meth : Method} {c : Code} {Q : State → Prop} {cc : ByteArray} {D : va_G} {cA : Nat → ClassId} {N0 nL pc cells slots : Nat} {adK : Nat → Nat} {own : String} {ad : Nat × Nat → Nat} {σ : AM} {K : AV → AM → Prop} {lv : List (Nat × Value)} {st : List Value}
/-- what stands beside the cells, in the words of the memory -/
theorem SWc_SW {U : State} {H : Heap} (h : SWc N0 adK U H) (hk : ∀ i, ad (67, i) = adK i) (hA : ∀ x, AA ad x → AN N0 x) : SW ad U H := by
  obtain ⟨adV, h1, h2, h3, h4, h5, h6⟩ := h
  have e : (fun i => ad (67, i)) = adK := funext hk
  refine ⟨adV, by rw [e]; exact h1.narrow hA, ⟨by rw [hk]; exact h2.1, by rw [hk]; exact h2.2⟩, h3.narrow hA, h4.narrow hA, h5⟩
/-- a call of one of ours, from outside -/
theorem n_callM {r y idx n t i cI : Nat} {As : List AV} (C : Cc p s m args c cc D cA N0 adK nL own) (hAd : AdOk ad) (hk : ∀ i, ad (67, i) = adK i) (hAN : ∀ x, AA ad x → AN N0 x) (hd : decode cc pc = .ok (.invokevirtual idx, 3)) (hy : YOk y) (hn : (parseMethodDescriptor (mn y).desc).map (fun d => d.parameters.length) = some n) (hAs : As.length = n) (hl : Cond.methodLink own idx (mn y) ∈ Tg) (hi1 : Cond.instanceMethod (mn y) ∈ Tg) (hs1 : Cond.selects (mn y).cls (mn y) (mn y) ∈ Tg)
    (hc : cI < 13) (hsh : sh t = (0, cI)) (hrn : RN cI = (mn y).cls) (ht : t < 67) (hi : i < cn t) (hvA : AllV (.inr (.inr (t, i)) :: As)) (hw : argW (.inr (.inr (t, i)) :: As) ≤ mxl y) (hst : (st.map fun v => v.category).sum ≤ 8) (hR : r + 9 ≤ R.frames ∧ 60 * r + 600 ≤ R.locals) (hcs : cells ≤ R.cells ∧ slots ≤ R.slots)
    (h : CALLm l D ad cA r y (.inr (.inr (t, i)) :: As) σ K) (kk : ∀ (v : AV) (σ' : AM), K v σ' → isU v = (rt y).isNone → vv v → Cn p l e R s m args below meth c Q D N0 nL (wsA ad cA σ') (pc + 3) lv ((ro ad v).toList ++ st) cells slots) : Cn p l e R s m args below meth c Q D N0 nL (wsA ad cA σ) pc lv ((As.map (cv ad)).reverse ++ .ref (ad (t, i)) :: st) cells slots := by
  intro H locs ls hl2 hP hD hS
  obtain ⟨hx, hb, hown, hml, hts, hK, hN0, hW⟩ := C
  have he : (wsA ad cA σ)[ps t + i]? = some (ad (t, i), .inr (cI, flds ad σ t i cI)) := by rw [wsA_at ht hi]; simp [cellOf, hsh]
  have hM := h hvA hw
  obtain ⟨y1, y2, y3, y4⟩ := hy
  have hcb : CallB R s args own idx (mn y) (cd y) (mxl y) (rt y) (wsM y) (rmK r) 0 0 n := callB_of n hts (goodT (wsM_in y1)) rfl rfl rfl (hts _ y2) (hts _ hl) ⟨y3.1, y3.2, hn⟩ ⟨by show r + 8 + 1 ≤ R.frames; omega, by show 8 + (mxl y + 11) + (60 * r + 500) ≤ R.locals; omega⟩
  have hrun := va_runV (p := p) (l := l) (e := e) (below := below) (meth := meth) (locs := locs) (cells := cells) (slots := slots) (R := R) (b := ad (t, i)) (As := As.map (cv ad)) (rest := st) (g := F0 m pc ls ((As.map (cv ad)).reverse ++ .ref (ad (t, i)) :: st)) (H := H) (Ts := Tg) (nL := nL) ⟨hx, hb, hml, hown, hts⟩ hM ⟨hcb, hts _ hi1, hts _ hs1⟩
    ⟨pre_blind, by rw [← hrn]; exact va_recv hK hP (clA_at cI hc) he, fun U hU hw2 => ⟨rfl, by rw [hU]; exact hP, va_K.moved hw2.alike hK, by rw [hU]; exact SW.warm hw2 (SWc_SW (hW.kept hS.2.1) hk hAN)⟩⟩ rfl (by rw [List.length_map]; exact hAs) hl2.1 rfl (lv_room hst) hd hcs
  intro T hT X
  obtain ⟨v, st₀, t2, T', L, h0, X', hL, e1, e2, ⟨⟨av, σ', hv, hu, hKv, hvv, hP1⟩, hz, hkk⟩, stp⟩ := hrun T hT X
  have hv : v = ro ad av := Outcome.returned.inj hv
  subst hv
  rw [h0] at hz hkk
  have hS1 : va_S (AN N0) s.heap T'.heap (locs ++ L) := ⟨Nat.le_trans hS.1 (by rw [e1]; exact hz), fun q h1 h2 => by rw [e1, hkk q (Nat.lt_of_lt_of_le h1 hS.1) (fun z => h2 (hAN q z))]; exact hS.2.1 q h1 h2, fun q hq => by
    rcases List.mem_append.mp hq with h | h
    · exact hS.2.2 q h
    · exact hAN _ (hL q h)⟩
  have hD1 : va_D (AN N0) (wsA ad cA σ') := (wsA_D hAd).weaken (fun k q hq _ => hAN _ ((wsA_D hAd (cA := cA) (σ := σ')).2 k q hq))
  obtain ⟨t3, a1, b1⟩ := kk av σ' hKv hu hvv T'.heap (locs ++ L) ls hl2 (by rw [e1]; exact hP1) hD1 hS1 T' rfl X'
  exact ⟨t3, stp t3 a1, b1⟩
end CLM
theorem Met_conG {l : Launch} {y : MethodName} {cb : ByteArray} {mx mc ms fr lo h0 N0 : Nat} {D : va_G} {cA : Nat → ClassId} {adK : Nat → Nat} {X : va_W} {cl : va_E} {As : List Value} {Qc : Array Value → State → Outcome → State → Prop} (hy : plainName y.cls = true) (hyn : y.name = "<init>") (hmx : (lg_sl (.ref h0 :: As)).length ≤ mx)
    (body : ∀ (p : Program) (e : Env) (s : State) (m : MethodId) (args : Array Value) (below : List Frame) (meth : Method) (c : Code), Cc p s m args c cb D cA N0 adK mx y.cls → meth.sig.returnType = none → meth.locks = false → meth.name = "<init>" → Cn p l e { frames := fr, cells := mc, slots := ms, locals := lo } s m args below meth c (MQ below Qc args s mc ms (AN N0)) D N0 mx (X ++ [(h0, cl)]) 0 (lv_args 0 (.ref h0 :: As)) [] 0 0) :
    Met l y (wS y cb mx none) { frames := fr, cells := mc, slots := ms, locals := lo } (va_Pc (.ref h0 :: As) (PreC D cA N0 adK (X ++ [(h0, cl)]))) Qc mc ms (AN N0) := by
  refine Met.ofW (cc := cb) (maxL := mx) (ret := none) hy rfl ?_
  intro p e s m args below meth c s₁ B hml hv
  obtain ⟨rfl, hN, hP, hK, hD, hW⟩ := hv
  have hts : ∀ w ∈ Tg, w.before _ s = true := fun w hw => atoms_spec (ws := wS y cb mx none) B.pre w (List.mem_cons_of_mem _ hw)
  have hin : meth.name = "<init>" := (name_of_methodNamed B.named B.method).1.trans hyn
  have hl := lv_entry (.ref h0 :: As) (n := mx) hmx
  rw [lg_entry_eq]
  exact body p e s m _ below meth c ⟨B.exec, B.bytes, findClass_of_methodNamed B.named, hml, hts, hK, hN, hW⟩ B.returns B.notSynchronized hin s.heap [] _ hl hP hD va_S.rf
def PostM (D : va_G) (cA : Nat → ClassId) (N0 : Nat) (adK a : Nat → Nat) (h0 : Nat) : Array Value → State → Outcome → State → Prop := va_Qv (fun u : (Nat → Nat) × AM => u.1 0 = h0 ∧ Rel u.2 ∧ AdOk (adW a u.1 adK) ∧ ∀ x, AA (adW a u.1 adK) x → AN N0 x) (fun u t => va_P D clA (wsA (adW a u.1 adK) cA u.2) t.heap) (AN N0)
theorem c_Model (l : Launch) (D : va_G) (cA : Nat → ClassId) (N0 : Nat) (adK a : Nat → Nat) (h0 : Nat) : Met l (⟨"SilentTurnModel", "<init>", "()V"⟩ : MethodName) (wS (⟨"SilentTurnModel", "<init>", "()V"⟩ : MethodName) prog_14_method_1_code 1 none) { frames := 12, cells := 20, slots := 6519, locals := 720 } (va_Pc (.ref h0 :: []) (PreC D cA N0 adK (z_ST cA a ++ [(h0, .inr (12, df12))]))) (PostM D cA N0 adK a h0) 20 6519 (AN N0) := by
  refine Met_conG (by decide) rfl (Nat.le_of_ble_eq_true rfl) (fun p e s m args below meth c C hr hlk hnm => ?_)
  refine w_Model C hnm (fun b hb => ?_)
  intro H locs ls hl hP hD hS
  obtain ⟨hAd, hAN⟩ := w0_Ad (adK := adK) hD
  have hPw := w0_P (adK := adK) hP
  have hDw : va_D (AN N0) (wsA (adW a b adK) cA sg0) := (wsA_D hAd).weaken (fun k q hq _ => hAN _ ((wsA_D hAd (cA := cA) (σ := sg0)).2 k q hq))
  obtain ⟨yk1, -, yk3, yk4, yk5, yk6, -⟩ := YK_ok n_m_plain (by decide) (by decide)
  have go : Cn p l e { frames := 12, cells := 20, slots := 6519, locals := 720 } s m args below meth c (MQ below (PostM D cA N0 adK a h0) args s 20 6519 (AN N0)) D N0 1 (wsA (adW a b adK) cA sg0) 193 [(0, .ref (b 0))] [] 20 6519 := by
    refine n_aload C dModel_193 0 rfl ?_
    refine n_iconst (v := Int32.ofInt 0) C dModel_194 rfl ?_
    refine n_callM (r := 1) (y := n_m_plain) (t := 46) (i := 0) (cI := 12) (As := [.inl (Int32.ofInt 0)]) (st := []) (K := fun v σ' => v = unset ∧ Rel σ') C hAd (fun i => rfl) hAN dModel_195 yk1 yk6 rfl (inT (in_t6 (List.mem_of_getElem? (i := 146) rfl)) rfl) (yk3 rfl).1 (yk3 rfl).2 (by decide) rfl rfl (by decide) (by decide) (AllV.cons (Or.inr (Or.inl ⟨by decide, by decide⟩)) (AllV.cons trivial AllV.nil)) (by decide) (Nat.le_of_ble_eq_true rfl) ⟨Nat.le_of_ble_eq_true rfl, Nat.le_of_ble_eq_true rfl⟩ ⟨Nat.le_refl _, Nat.le_refl _⟩ (m_plain0 (RuleAll_M hAd) (fun σ' hz f => ⟨rfl, Rel_0 hz f⟩)) (fun v σ' hK hu _ => ?_)
    obtain ⟨hv, hRel⟩ := hK
    subst hv
    intro H1 locs1 ls1 hl1 hP1 hD1 hS1
    exact W.vret C.1 C.2.1 hr (fun t ht hW => ⟨⟨(b, σ'), rfl, ⟨hb, hRel, hAd, hAN⟩, by show va_P D clA (wsA (adW a b adK) cA σ') t.heap; rw [ht]; exact hP1⟩, hS1.F ht⟩) hS1.2.2 dModel_198 hlk
  exact go H locs ls hl hPw hDw hS
