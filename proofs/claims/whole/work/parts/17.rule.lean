section RUL
variable {p : Program} {l : Launch} {e : Env} {s : State} {m : MethodId} {args : Array Value} {below : List Frame} {meth : Method} {c : Code} {D : va_G} {ad : Nat × Nat → Nat} {cA : Nat → ClassId} {K : AV → AM → Prop} {r y0 : Nat}
theorem wpb_sound (C : Cx p s m args c (cd y0) D ad cA (mxl y0) (RN (ocl y0))) (hlk : meth.locks = false) (hret : meth.sig.returnType = rt y0) (ho : ocl y0 < 16) (hSt : StrOk p l e s m args below meth c D ad cA K r y0) : ∀ (items : List Item) (pc : Nat) (lv st : List AV) (σ : AM), chkB (cd y0) (ocl y0) y0 pc items = true →
    wpb (CALLm l D ad cA r) K (Gd p l e (rmK (r + 1)) s m args below meth c (mxl y0) (MQ below (QcK D ad cA (rt y0).isNone K) args s 0 0 (AA ad)) D ad cA) items lv st σ → Gd p l e (rmK (r + 1)) s m args below meth c (mxl y0) (MQ below (QcK D ad cA (rt y0).isNone K) args s 0 0 (AA ad)) D ad cA pc lv st σ := by
  intro items
  induction items with
  | nil => intro pc lv st σ _ h; exact h.elim
  | cons it rest ih =>
    intro pc lv st σ hc h
    rw [wpb] at h
    rw [chkB] at hc
    split at hc
    · rename_i hn
      obtain ⟨ins, a, info⟩ := it
      dsimp only at hn
      subst hn
      have e1 : pc = a := of_decide_eq_true hc
      subst e1
      exact h
    · rename_i hn
      split at hc
      · rename_i i n hd
        simp only [Bool.and_eq_true, decide_eq_true_eq, Bool.or_eq_true] at hc
        obtain ⟨e1, h1, h2⟩ := hc
        subst e1
        refine ex_sound C hlk hret ho hSt hd h1 hn (fun he lv st σ hk => ?_) h
        rcases h2 with h2 | h2
        · rw [he] at h2; cases h2
        · exact ih _ _ _ _ h2 hk
      · cases hc
end RUL
/-- a method by its blocks -/
theorem rule_m {l : Launch} {D : va_G} {ad : Nat × Nat → Nat} {cA : Nat → ClassId} (hA : AdOk ad) (hSt : ∀ (p : Program) (e : Env) (s : State) (m : MethodId) (args : Array Value) (below : List Frame) (meth : Method) (c : Code) (K : AV → AM → Prop) (r y0 : Nat), Cx p s m args c (cd y0) D ad cA (mxl y0) (RN (ocl y0)) → StrOk p l e s m args below meth c D ad cA K r y0)
    {y : Nat} (hy : YK y) (hchk : ∀ pc, blk y pc = [] ∨ chkB (cd y) (ocl y) y pc (blk y pc) = true) {r : Nat} {args : List AV} {σ : AM} {K : AV → AM → Prop}
    (h : ∀ J : Nat → List AV → List AV → AM → Prop, (∀ pc lv st σ, wpb (CALLm l D ad cA r) K J (blk y pc) lv st σ → J pc lv st σ) → J 0 (ent (mxl y) args) [] σ) : CALLm l D ad cA (r + 1) y args σ K := by
  intro hv hw
  obtain ⟨yk1, -, -, yk4, yk5, yk6, yk7⟩ := hy
  refine MetFree.of_bodySF (code := cd y) (maxLocals := mxl y) (ret := rt y) yk7 ?_ ?_
  · intro args s m h hn
    obtain ⟨meth, c, h1, h2, h3, h4, h5, h6, -, -⟩ := Cond.code_spec hn (atoms_spec (ws := wsM y) h _ List.mem_cons_self)
    exact ⟨meth, c, h1, h2, h3, h4, h5, h6⟩
  · intro p e s m args' below meth c s₁ B hml hP _
    have hh0 : s₁.heap = s.heap := by rw [B.state]; rfl
    obtain ⟨rfl, hP, hK, hSW⟩ := hP
    have hts := atoms_spec (ws := wsM y) B.pre
    have C : Cx p s m (args.map (cv ad)).toArray c (cd y) D ad cA (mxl y) (RN (ocl y)) := ⟨B.exec, B.bytes, by rw [yk5]; exact findClass_of_methodNamed B.named, hml, fun w hw => hts w (List.mem_cons_of_mem _ hw), hK, hA, hSW⟩
    have hlk := B.notSynchronized
    have key := h (Gd p l e (rmK (r + 1)) s m (args.map (cv ad)).toArray below meth c (mxl y) (MQ below (QcK D ad cA (rt y).isNone K) (args.map (cv ad)).toArray s 0 0 (AA ad)) D ad cA) (fun pc lv st σ hw => by
      rcases hchk pc with h0 | h0
      · rw [h0] at hw; exact hw.elim
      · exact wpb_sound C hlk B.returns yk4 (hSt _ _ _ _ _ _ _ _ _ _ _ C) _ _ _ _ _ h0 hw)
    have hl := lv_entry (args.map (cv ad)) (n := mxl y) (by rw [argW_sl]; exact hw)
    have W0 := key (ent_vv _ _ hv) AllV.nil s.heap [] _ hP va_S.rf ⟨hl.1, hl.2.1, fun q hq => hl.2.2 q (ent_in _ _ _ _ hq)⟩
    have W1 : W p l e (headSpec (wsM y) (rmK (r + 1))).room s m (args.map (cv ad)).toArray below meth c s.heap [] 0 0 (MQ below (QcK D ad cA (rt y).isNone K) (args.map (cv ad)).toArray s 0 0 (AA ad)) (entryFrame m (args.map (cv ad)).toArray (mxl y)) := by
      rw [lg_entry_eq]
      exact W0
    obtain ⟨t, a1, o, b1, b2, b3⟩ := W1 s₁ hh0 (Stand.of_body B)
    exact ⟨t, o, a1, b1, b2, ⟨b3.1, b3.2⟩⟩
