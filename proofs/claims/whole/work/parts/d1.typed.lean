/-! an answer is of the kind that its method says -/
theorem cmpI_mono {c : Jvm.ClassFile.Cond} {x y : Int32} {A B B' : Prop} (h : B → B') : cmpI c x y A B → cmpI c x y A B' := by
  cases c <;> exact fun z => ⟨z.1, fun w => h (z.2 w)⟩
set_option maxHeartbeats 8000000 in
theorem ex_mono {CALL CALL' : Nat → List AV → AM → (AV → AM → Prop) → Prop} {K K2 : AV → AM → Prop} {J : Nat → List AV → List AV → AM → Prop} (hC : ∀ (y : Nat) (as : List AV) (σ : AM) (k k' : AV → AM → Prop), (∀ v σ, k v σ → k' v σ) → CALL y as σ k → CALL' y as σ k') {ins : Instr} {a : Nat} {info : List Nat} {lv st : List AV} {σ : AM} {kont kont' : List AV → List AV → AM → Prop} (hk : ∀ lv st σ, kont lv st σ → kont' lv st σ) (hi : ins = .ireturn → ∀ x σ, K (.inl x) σ → K2 (.inl x) σ) (hl : ins = .lreturn → ∀ x σ, K (.inr (.inl x)) σ → K2 (.inr (.inl x)) σ) (ha : ins = .areturn → ∀ q σ, K (.inr (.inr q)) σ → K2 (.inr (.inr q)) σ) (hv : ins = .return_ → ∀ σ, K unset σ → K2 unset σ) :
    ex CALL K J (ins, a, info) lv st σ kont → ex CALL' K2 J (ins, a, info) lv st σ kont' := by
  cases ins
  all_goals (unfold ex cond; dsimp only)
  all_goals (try exact id)
  all_goals (repeat' (first | exact False.elim | exact id | exact hk _ _ _ | exact (fun h => ⟨h.1, hk _ _ _ h.2⟩) | exact (fun h => ⟨h.1, h.2.1, hk _ _ _ h.2.2⟩) | exact cmpI_mono (hk _ _ _) | exact hi rfl _ _ | exact (fun h => ⟨h.1, hi rfl _ _ h.2⟩) | exact hl rfl _ _ | exact ha rfl _ _ | exact hv rfl _ | exact hC _ _ _ _ _ (fun v σ' => hk _ _ _) | split))
/-- an instruction that ends a block: what comes behind it doesn't matter -/
theorem ex_end {CALL CALL' : Nat → List AV → AM → (AV → AM → Prop) → Prop} {K K2 : AV → AM → Prop} {J : Nat → List AV → List AV → AM → Prop} {ins : Instr} {a : Nat} {info : List Nat} {lv st : List AV} {σ : AM} {kont kont' : List AV → List AV → AM → Prop} (he : isEnd ins = true) (_hC : ∀ (y : Nat) (as : List AV) (σ : AM) (k k' : AV → AM → Prop), (∀ v σ, k v σ → k' v σ) → CALL y as σ k → CALL' y as σ k') (hi : ins = .ireturn → ∀ x σ, K (.inl x) σ → K2 (.inl x) σ) (hl : ins = .lreturn → ∀ x σ, K (.inr (.inl x)) σ → K2 (.inr (.inl x)) σ) (ha : ins = .areturn → ∀ q σ, K (.inr (.inr q)) σ → K2 (.inr (.inr q)) σ) (hv : ins = .return_ → ∀ σ, K unset σ → K2 unset σ) :
    ex CALL K J (ins, a, info) lv st σ kont → ex CALL' K2 J (ins, a, info) lv st σ kont' := by
  cases ins
  any_goals (cases he; done)
  all_goals (unfold ex cond; dsimp only)
  all_goals (try exact id)
  all_goals (repeat' (first | exact False.elim | exact id | exact hi rfl _ _ | exact (fun h => ⟨h.1, hi rfl _ _ h.2⟩) | exact hl rfl _ _ | exact ha rfl _ _ | exact hv rfl _ | split))
def tyR (ret : Option FieldType) (v : AV) : Prop := match ret with
  | some .int => ∃ x : Int32, v = .inl x
  | some .boolean => ∃ x : Int32, v = .inl x
  | some .long => ∃ x : Int64, v = .inr (.inl x)
  | _ => True
theorem wpb_ty {CALL CALL' : Nat → List AV → AM → (AV → AM → Prop) → Prop} {K : AV → AM → Prop} {J : Nat → List AV → List AV → AM → Prop} (hC : ∀ (y : Nat) (as : List AV) (σ : AM) (k k' : AV → AM → Prop), (∀ v σ, k v σ → k' v σ) → CALL y as σ k → CALL' y as σ k') {y0 : Nat} : ∀ (items : List Item) (pc : Nat) (lv st : List AV) (σ : AM), chkB (cd y0) (ocl y0) y0 pc items = true → wpb CALL K J items lv st σ → wpb CALL' (fun v σ' => tyR (rt y0) v ∧ K v σ') J items lv st σ := by
  intro items
  induction items with
  | nil => intro pc lv st σ _ h; exact h
  | cons it rest ih =>
    intro pc lv st σ hc h
    rw [wpb] at h ⊢
    rw [chkB] at hc
    obtain ⟨ins, a, info⟩ := it
    split at hc
    · rename_i hn
      dsimp only at hn
      subst hn
      exact h
    · rename_i hn
      split at hc
      · rename_i i n hd
        simp only [Bool.and_eq_true, decide_eq_true_eq, Bool.or_eq_true] at hc
        obtain ⟨e1, h1, h2⟩ := hc
        have hk : ins ≠ .ireturn → ins ≠ .lreturn → ins ≠ .areturn → ins ≠ .return_ → isEnd ins = false → ∀ lv st σ, wpb CALL K J rest lv st σ → wpb CALL' (fun v σ' => tyR (rt y0) v ∧ K v σ') J rest lv st σ := by
          intro _ _ _ _ he lv st σ hw
          rcases h2 with h2 | h2
          · rw [he] at h2; cases h2
          · exact ih _ _ _ _ h2 hw
        by_cases he : isEnd ins = true
        · have hr : (ins = .ireturn → ∀ x σ, K (.inl x) σ → (fun v σ' => tyR (rt y0) v ∧ K v σ') (.inl x) σ) := by
            intro e x σ hx
            subst e
            have h1 : (decide (n = 1) && decide ((a = 0 ∧ rt y0 = some .int) ∨ (a = 1 ∧ rt y0 = some .boolean))) = true := h1
            simp only [Bool.and_eq_true, decide_eq_true_eq] at h1
            refine ⟨?_, hx⟩
            rcases h1.2 with z | z
            · rw [z.2]; exact ⟨x, rfl⟩
            · rw [z.2]; exact ⟨x, rfl⟩
          have hl : (ins = .lreturn → ∀ x σ, K (.inr (.inl x)) σ → (fun v σ' => tyR (rt y0) v ∧ K v σ') (.inr (.inl x)) σ) := by
            intro e x σ hx
            subst e
            have h1 : (decide (n = 1) && decide (rt y0 = some .long)) = true := h1
            simp only [Bool.and_eq_true, decide_eq_true_eq] at h1
            refine ⟨?_, hx⟩
            rw [h1.2]; exact ⟨x, rfl⟩
          have ha : (ins = .areturn → ∀ q σ, K (.inr (.inr q)) σ → (fun v σ' => tyR (rt y0) v ∧ K v σ') (.inr (.inr q)) σ) := by
            intro e x σ hx
            subst e
            have h1 : (decide (n = 1) && (match rt y0 with | some (.object _) => true | _ => false)) = true := h1
            refine ⟨?_, hx⟩
            cases hr : rt y0 with
            | none => trivial
            | some t =>
              rw [hr] at h1
              cases t <;> first | trivial | (simp at h1)
          have hv : (ins = .return_ → ∀ σ, K unset σ → (fun v σ' => tyR (rt y0) v ∧ K v σ') unset σ) := by
            intro e σ hx
            subst e
            have h1 : (decide (n = 1) && decide (rt y0 = none)) = true := h1
            simp only [Bool.and_eq_true, decide_eq_true_eq] at h1
            refine ⟨?_, hx⟩
            rw [h1.2]; trivial
          exact ex_end he hC hr hl ha hv h
        · have he : isEnd ins = false := by cases h9 : isEnd ins with | true => exact absurd h9 he | false => rfl
          exact ex_mono hC (fun lv st σ hw => by
            rcases h2 with h2 | h2
            · rw [he] at h2; cases h2
            · exact ih _ _ _ _ h2 hw) (fun e => by subst e; cases he) (fun e => by subst e; cases he) (fun e => by subst e; cases he) (fun e => by subst e; cases he) h
      · cases hc
def CALLt (l : Launch) (D : va_G) (ad : Nat × Nat → Nat) (cA : Nat → ClassId) (r y : Nat) (args : List AV) (σ : AM) (K : AV → AM → Prop) : Prop := CALLm l D ad cA r y args σ (fun v σ' => tyR (rt y) v ∧ K v σ')
theorem RuleAll_T {l : Launch} {D : va_G} {ad : Nat × Nat → Nat} {cA : Nat → ClassId} (hA : AdOk ad) : RuleAll (CALLt l D ad cA) := by
  intro r y args σ K h1 h2 h
  refine RuleAll_M hA r y args σ _ h1 h2 (fun J hJ => h J (fun pc lv st σ hw => hJ pc lv st σ ?_))
  rcases CK_ok y h1 h2 pc with h0 | h0
  · rw [h0] at hw; exact hw.elim
  · exact wpb_ty (CALL := CALLt l D ad cA r) (CALL' := CALLm l D ad cA r) (fun y as σ k k' hk hc => hc.mono (fun v σ' z => hk v σ' z.2)) _ _ _ _ _ h0 hw
