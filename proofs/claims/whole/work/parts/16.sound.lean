/-! what a block asks for is enough for the machine -/
theorem FL_in {o idx a k : Nat} (ho : o < 16) (h : (FLo o).any (fun e => Nat.beq e.1 idx && (Nat.beq e.2.1 a && Nat.beq e.2.2.1 k)) = true) : Cond.fieldLink (RN o) idx (TT a k).1 (TT a k).2.1 (TT a k).2.2.1 ∈ Tg := by
  obtain ⟨e, he, h2⟩ := List.any_eq_true.mp h
  simp only [Bool.and_eq_true] at h2
  have e1 := Nat.eq_of_beq_eq_true h2.1
  have e2 := Nat.eq_of_beq_eq_true h2.2.1
  have e3 := Nat.eq_of_beq_eq_true h2.2.2
  rw [← e1, ← e2, ← e3]
  exact inTp _ (FLo_ok o ho e he) rfl
theorem ML_in {o idx a : Nat} (ho : o < 16) (h : (MLo o).any (fun e => Nat.beq e.1 idx && Nat.beq e.2.1 a) = true) : Cond.methodLink (RN o) idx (mn a) ∈ Tg := by
  obtain ⟨e, he, h2⟩ := List.any_eq_true.mp h
  simp only [Bool.and_eq_true] at h2
  rw [← Nat.eq_of_beq_eq_true h2.1, ← Nat.eq_of_beq_eq_true h2.2]
  exact inTp _ (MLo_ok o ho e he) rfl
theorem MN_in {o idx a : Nat} (ho : o < 16) (h : (MNo o).any (fun e => Nat.beq e.1 idx && Nat.beq e.2.1 a) = true) : (RN o, idx, mn a) ∈ NWL := by
  obtain ⟨e, he, h2⟩ := List.any_eq_true.mp h
  simp only [Bool.and_eq_true] at h2
  rw [← Nat.eq_of_beq_eq_true h2.1, ← Nat.eq_of_beq_eq_true h2.2]
  exact List.mem_of_getElem? (MNo_ok o ho e he)
theorem CK_in {o idx a : Nat} (ho : o < 16) (h : (CKo o).any (fun e => Nat.beq e.1 idx && Nat.beq e.2.1 a) = true) : Cond.constant (RN o) idx (Int32.ofInt (a : Int)) ∈ Tg := by
  obtain ⟨e, he, h2⟩ := List.any_eq_true.mp h
  simp only [Bool.and_eq_true] at h2
  rw [← Nat.eq_of_beq_eq_true h2.1, ← Nat.eq_of_beq_eq_true h2.2]
  exact inTp _ (CKo_ok o ho e he) rfl
theorem CL_in {o idx a : Nat} (ho : o < 16) (h : (CLo o).any (fun e => Nat.beq e.1 idx && Nat.beq e.2.1 a) = true) : Cond.constantLong (RN o) idx (Int64.ofInt (a : Int)) ∈ Tg := by
  obtain ⟨e, he, h2⟩ := List.any_eq_true.mp h
  simp only [Bool.and_eq_true] at h2
  rw [← Nat.eq_of_beq_eq_true h2.1, ← Nat.eq_of_beq_eq_true h2.2]
  exact inTp _ (CLo_ok o ho e he) rfl
theorem CM_in {o idx a : Nat} (ho : o < 16) (h : (CMo o).any (fun e => Nat.beq e.1 idx && Nat.beq e.2.1 a) = true) : Cond.constantLong (RN o) idx (Int64.ofInt (-(a : Int))) ∈ Tg := by
  obtain ⟨e, he, h2⟩ := List.any_eq_true.mp h
  simp only [Bool.and_eq_true] at h2
  rw [← Nat.eq_of_beq_eq_true h2.1, ← Nat.eq_of_beq_eq_true h2.2]
  exact inTp _ (CMo_ok o ho e he) rfl
theorem AC_in {o idx : Nat} (ho : o < 16) (h : (ACo o).any (fun e => Nat.beq e.1 idx) = true) : Cond.methodLink (RN o) idx arraycopyName ∈ Tg := by
  obtain ⟨e, he, h2⟩ := List.any_eq_true.mp h
  rw [← Nat.eq_of_beq_eq_true h2]
  exact inTp _ (ACo_ok o ho e he) rfl
theorem popA_eq : ∀ (n : Nat) (acc st : List AV) (a s : List AV), popA n acc st = some (a, s) → ∃ b, a = b ++ acc ∧ st = b.reverse ++ s ∧ b.length = n
  | 0, acc, st, a, s, h => by
    cases h
    exact ⟨[], rfl, rfl, rfl⟩
  | n + 1, acc, [], a, s, h => by cases h
  | n + 1, acc, v :: st, a, s, h => by
    obtain ⟨b, h1, h2, h3⟩ := popA_eq n (v :: acc) st a s h
    exact ⟨b ++ [v], by rw [h1, List.append_assoc]; rfl, by rw [h2, List.reverse_append]; rfl, by rw [List.length_append, h3]; rfl⟩
theorem fits_ref {ty : FieldType} {a : Nat} (h1 : narrow ty (.ref 0) = .ref 0) (h2 : fits ty (.ref 0) = true) : narrow ty (.ref a) = .ref a ∧ fits ty (.ref a) = true := by
  cases ty <;> first | exact ⟨rfl, rfl⟩ | (simp [narrow] at h1; done) | (simp [fits] at h2; done)
theorem CALLm.mono {l : Launch} {D : va_G} {ad : Nat × Nat → Nat} {cA : Nat → ClassId} {r y : Nat} {as : List AV} {σ : AM} {K K' : AV → AM → Prop} (h : CALLm l D ad cA r y as σ K) (hk : ∀ v σ', K v σ' → K' v σ') : CALLm l D ad cA r y as σ K' := by
  intro h1 h2
  refine MetFree.mono (h h1 h2) (fun _ _ h => h) (fun _ _ _ _ _ h => h) (fun a st o t _ hq => ?_)
  obtain ⟨⟨⟨v, σ', e1, e2, e3, e4⟩, e5⟩, e6⟩ := hq
  exact ⟨⟨⟨v, σ', e1, e2, hk v σ' e3, e4⟩, e5⟩, e6⟩
section EXS
variable {p : Program} {l : Launch} {e : Env} {s : State} {m : MethodId} {args : Array Value} {below : List Frame} {meth : Method} {c : Code} {D : va_G} {ad : Nat × Nat → Nat} {cA : Nat → ClassId} {K : AV → AM → Prop} {r y0 : Nat}
/-- the two calls on a text, for one frame -/
def StrOk (p : Program) (l : Launch) (e : Env) (s : State) (m : MethodId) (args : Array Value) (below : List Frame) (meth : Method) (c : Code) (D : va_G) (ad : Nat × Nat → Nat) (cA : Nat → ClassId) (K : AV → AM → Prop) (r y0 : Nat) : Prop :=
  (∀ (pc i : Nat) (lv st : List AV) (σ : AM), ocl y0 = 12 → decode (cd y0) pc = .ok (.invokevirtual 154, 3) → st.length ≤ 4 → Gd p l e (rmK (r + 1)) s m args below meth c (mxl y0) (MQ below (QcK D ad cA (rt y0).isNone K) args s 0 0 (AA ad)) D ad cA (pc + 3) lv (.inl (Int32.ofInt (slen i : Int)) :: st) σ → Gd p l e (rmK (r + 1)) s m args below meth c (mxl y0) (MQ below (QcK D ad cA (rt y0).isNone K) args s 0 0 (AA ad)) D ad cA pc lv (.inr (.inr (67, i)) :: st) σ) ∧
  (∀ (pc i : Nat) (j : Int32) (lv st : List AV) (σ : AM), ocl y0 = 12 → decode (cd y0) pc = .ok (.invokevirtual 160, 3) → st.length ≤ 4 → vp_in j (slen i) → Gd p l e (rmK (r + 1)) s m args below meth c (mxl y0) (MQ below (QcK D ad cA (rt y0).isNone K) args s 0 0 (AA ad)) D ad cA (pc + 3) lv (.inl (schr i j.toNatClampNeg) :: st) σ → Gd p l e (rmK (r + 1)) s m args below meth c (mxl y0) (MQ below (QcK D ad cA (rt y0).isNone K) args s 0 0 (AA ad)) D ad cA pc lv (.inl j :: .inr (.inr (67, i)) :: st) σ) ∧
  (∀ (pc : Nat) (lv st : List AV) (σ : AM), ocl y0 = 12 → decode (cd y0) pc = .ok (.ldc 187, 2) → Gd p l e (rmK (r + 1)) s m args below meth c (mxl y0) (MQ below (QcK D ad cA (rt y0).isNone K) args s 0 0 (AA ad)) D ad cA (pc + 2) lv (.inr (.inr (67, 1)) :: st) σ → Gd p l e (rmK (r + 1)) s m args below meth c (mxl y0) (MQ below (QcK D ad cA (rt y0).isNone K) args s 0 0 (AA ad)) D ad cA pc lv st σ)
set_option maxHeartbeats 4000000 in
theorem ex_sound (C : Cx p s m args c (cd y0) D ad cA (mxl y0) (RN (ocl y0))) (hlk : meth.locks = false) (hret : meth.sig.returnType = rt y0) (ho : ocl y0 < 16) (hSt : StrOk p l e s m args below meth c D ad cA K r y0)
    {pc len : Nat} {it : Item} {lv st : List AV} {σ : AM} {kont : List AV → List AV → AM → Prop} (hd : decode (cd y0) pc = .ok (it.1, len)) (hok : okI (ocl y0) y0 pc len it = true) (hnop : it.1 ≠ .nop)
    (hk : isEnd it.1 = false → ∀ lv st σ, kont lv st σ → Gd p l e (rmK (r + 1)) s m args below meth c (mxl y0) (MQ below (QcK D ad cA (rt y0).isNone K) args s 0 0 (AA ad)) D ad cA (pc + len) lv st σ)
    (h : ex (CALLm l D ad cA r) K (Gd p l e (rmK (r + 1)) s m args below meth c (mxl y0) (MQ below (QcK D ad cA (rt y0).isNone K) args s 0 0 (AA ad)) D ad cA) it lv st σ kont) : Gd p l e (rmK (r + 1)) s m args below meth c (mxl y0) (MQ below (QcK D ad cA (rt y0).isNone K) args s 0 0 (AA ad)) D ad cA pc lv st σ := by
  obtain ⟨ins, a, info⟩ := it
  dsimp only at hd hk hnop
  cases ins with
  | iadd =>
    have el : len = 1 := of_decide_eq_true hok
    subst el
    dsimp only [ex] at h
    split at h
    · exact g_iadd C hd (hk rfl _ _ _ h)
    · exact h.elim
  | isub =>
    have el : len = 1 := of_decide_eq_true hok
    subst el
    dsimp only [ex] at h
    split at h
    · exact g_isub C hd (hk rfl _ _ _ h)
    · exact h.elim
  | imul =>
    have el : len = 1 := of_decide_eq_true hok
    subst el
    dsimp only [ex] at h
    split at h
    · exact g_imul C hd (hk rfl _ _ _ h)
    · exact h.elim
  | iand =>
    have el : len = 1 := of_decide_eq_true hok
    subst el
    dsimp only [ex] at h
    split at h
    · exact g_iand C hd (hk rfl _ _ _ h)
    · exact h.elim
  | ior =>
    have el : len = 1 := of_decide_eq_true hok
    subst el
    dsimp only [ex] at h
    split at h
    · exact g_ior C hd (hk rfl _ _ _ h)
    · exact h.elim
  | ixor =>
    have el : len = 1 := of_decide_eq_true hok
    subst el
    dsimp only [ex] at h
    split at h
    · exact g_ixor C hd (hk rfl _ _ _ h)
    · exact h.elim
  | ishl =>
    have el : len = 1 := of_decide_eq_true hok
    subst el
    dsimp only [ex] at h
    split at h
    · exact g_ishl C hd (hk rfl _ _ _ h)
    · exact h.elim
  | ishr =>
    have el : len = 1 := of_decide_eq_true hok
    subst el
    dsimp only [ex] at h
    split at h
    · exact g_ishr C hd (hk rfl _ _ _ h)
    · exact h.elim
  | iushr =>
    have el : len = 1 := of_decide_eq_true hok
    subst el
    dsimp only [ex] at h
    split at h
    · exact g_iushr C hd (hk rfl _ _ _ h)
    · exact h.elim
  | ladd =>
    have el : len = 1 := of_decide_eq_true hok
    subst el
    dsimp only [ex] at h
    split at h
    · exact g_ladd C hd (hk rfl _ _ _ h)
    · exact h.elim
  | lsub =>
    have el : len = 1 := of_decide_eq_true hok
    subst el
    dsimp only [ex] at h
    split at h
    · exact g_lsub C hd (hk rfl _ _ _ h)
    · exact h.elim
  | lmul =>
    have el : len = 1 := of_decide_eq_true hok
    subst el
    dsimp only [ex] at h
    split at h
    · exact g_lmul C hd (hk rfl _ _ _ h)
    · exact h.elim
  | land =>
    have el : len = 1 := of_decide_eq_true hok
    subst el
    dsimp only [ex] at h
    split at h
    · exact g_land C hd (hk rfl _ _ _ h)
    · exact h.elim
  | lor =>
    have el : len = 1 := of_decide_eq_true hok
    subst el
    dsimp only [ex] at h
    split at h
    · exact g_lor C hd (hk rfl _ _ _ h)
    · exact h.elim
  | lshl =>
    have el : len = 1 := of_decide_eq_true hok
    subst el
    dsimp only [ex] at h
    split at h
    · exact g_lshl C hd (hk rfl _ _ _ h)
    · exact h.elim
  | lcmp =>
    have el : len = 1 := of_decide_eq_true hok
    subst el
    dsimp only [ex] at h
    split at h
    · exact g_lcmp C hd (hk rfl _ _ _ h)
    · exact h.elim
  | i2l =>
    have el : len = 1 := of_decide_eq_true hok
    subst el
    dsimp only [ex] at h
    split at h
    · exact g_i2l C hd (hk rfl _ _ _ h)
    · exact h.elim
  | l2i =>
    have el : len = 1 := of_decide_eq_true hok
    subst el
    dsimp only [ex] at h
    split at h
    · exact g_l2i C hd (hk rfl _ _ _ h)
    · exact h.elim
  | i2b =>
    have el : len = 1 := of_decide_eq_true hok
    subst el
    dsimp only [ex] at h
    split at h
    · exact g_i2b C hd (hk rfl _ _ _ h)
    · exact h.elim
  | i2s =>
    have el : len = 1 := of_decide_eq_true hok
    subst el
    dsimp only [ex] at h
    split at h
    · exact g_i2s C hd (hk rfl _ _ _ h)
    · exact h.elim
  | ineg =>
    have el : len = 1 := of_decide_eq_true hok
    subst el
    dsimp only [ex] at h
    split at h
    · exact g_ineg C hd (hk rfl _ _ _ h)
    · exact h.elim
  | idiv =>
    have el : len = 1 := of_decide_eq_true hok
    subst el
    dsimp only [ex] at h
    split at h
    · exact g_idiv C hd h.1 (hk rfl _ _ _ h.2)
    · exact h.elim
  | irem =>
    have el : len = 1 := of_decide_eq_true hok
    subst el
    dsimp only [ex] at h
    split at h
    · exact g_irem C hd h.1 (hk rfl _ _ _ h.2)
    · exact h.elim
  | ldiv =>
    have el : len = 1 := of_decide_eq_true hok
    subst el
    dsimp only [ex] at h
    split at h
    · exact g_ldiv C hd h.1 (hk rfl _ _ _ h.2)
    · exact h.elim
  | lrem =>
    have el : len = 1 := of_decide_eq_true hok
    subst el
    dsimp only [ex] at h
    split at h
    · exact g_lrem C hd h.1 (hk rfl _ _ _ h.2)
    · exact h.elim
  | dup =>
    have el : len = 1 := of_decide_eq_true hok
    subst el
    dsimp only [ex] at h
    split at h
    · exact g_dupi C hd (hk rfl _ _ _ h)
    · exact g_dupr C hd (hk rfl _ _ _ h)
    · exact h.elim
  | dup2 =>
    have el : len = 1 := of_decide_eq_true hok
    subst el
    dsimp only [ex] at h
    split at h
    · exact g_dup2 C hd (hk rfl _ _ _ h)
    · exact h.elim
  | pop =>
    have el : len = 1 := of_decide_eq_true hok
    subst el
    dsimp only [ex] at h
    split at h
    · exact g_popi C hd (hk rfl _ _ _ h)
    · exact g_popr C hd (hk rfl _ _ _ h)
    · exact h.elim
  | iconst n =>
    have el : len = 1 := of_decide_eq_true hok
    subst el
    exact g_iconst C hd (hk rfl _ _ _ h)
  | lconst n =>
    have el : len = 1 := of_decide_eq_true hok
    subst el
    exact g_lconst C hd (hk rfl _ _ _ h)
  | bipush n =>
    simp only [okI, Bool.and_eq_true, decide_eq_true_eq] at hok
    obtain ⟨el, h1⟩ := hok
    subst el
    exact g_bipush C hd h1 (hk rfl _ _ _ h)
  | sipush n =>
    simp only [okI, Bool.and_eq_true, decide_eq_true_eq] at hok
    obtain ⟨el, h1⟩ := hok
    subst el
    exact g_sipush C hd h1 (hk rfl _ _ _ h)
  | goto off =>
    simp only [okI, Bool.and_eq_true, decide_eq_true_eq] at hok
    obtain ⟨el, h1⟩ := hok
    subst el
    exact g_goto C hd h1 h
  | iload_n n =>
    have el : len = 1 := of_decide_eq_true hok
    subst el
    dsimp only [ex] at h
    split at h
    · rename_i hg
      exact g_iload_n C hd hg (hk rfl _ _ _ h)
    · exact h.elim
  | lload_n n =>
    have el : len = 1 := of_decide_eq_true hok
    subst el
    dsimp only [ex] at h
    split at h
    · rename_i hg
      exact g_lload_n C hd hg (hk rfl _ _ _ h)
    · exact h.elim
  | aload_n n =>
    have el : len = 1 := of_decide_eq_true hok
    subst el
    dsimp only [ex] at h
    split at h
    · rename_i q hg
      obtain ⟨t, i⟩ := q
      cases t with
      | zero => exact h.elim
      | succ t => exact g_aload_n C hd hg (Nat.succ_ne_zero t) (hk rfl _ _ _ h)
    · exact h.elim
  | istore_n n =>
    simp only [okI, Bool.and_eq_true, decide_eq_true_eq] at hok
    obtain ⟨el, h1⟩ := hok
    subst el
    dsimp only [ex] at h
    split at h
    · exact g_istore_n C hd h1 (hk rfl _ _ _ h)
    · exact h.elim
  | lstore_n n =>
    simp only [okI, Bool.and_eq_true, decide_eq_true_eq] at hok
    obtain ⟨el, h1⟩ := hok
    subst el
    dsimp only [ex] at h
    split at h
    · exact g_lstore_n C hd h1 (hk rfl _ _ _ h)
    · exact h.elim
  | astore_n n =>
    simp only [okI, Bool.and_eq_true, decide_eq_true_eq] at hok
    obtain ⟨el, h1⟩ := hok
    subst el
    dsimp only [ex] at h
    split at h
    · exact g_astore_n C hd h1 (hk rfl _ _ _ h)
    · exact h.elim
  | iload n =>
    have el : len = 2 := of_decide_eq_true hok
    subst el
    dsimp only [ex] at h
    split at h
    · rename_i hg
      exact g_iload C hd hg (hk rfl _ _ _ h)
    · exact h.elim
  | lload n =>
    have el : len = 2 := of_decide_eq_true hok
    subst el
    dsimp only [ex] at h
    split at h
    · rename_i hg
      exact g_lload C hd hg (hk rfl _ _ _ h)
    · exact h.elim
  | aload n =>
    have el : len = 2 := of_decide_eq_true hok
    subst el
    dsimp only [ex] at h
    split at h
    · rename_i q hg
      obtain ⟨t, i⟩ := q
      cases t with
      | zero => exact h.elim
      | succ t => exact g_aload C hd hg (Nat.succ_ne_zero t) (hk rfl _ _ _ h)
    · exact h.elim
  | istore n =>
    simp only [okI, Bool.and_eq_true, decide_eq_true_eq] at hok
    obtain ⟨el, h1⟩ := hok
    subst el
    dsimp only [ex] at h
    split at h
    · exact g_istore C hd h1 (hk rfl _ _ _ h)
    · exact h.elim
  | lstore n =>
    simp only [okI, Bool.and_eq_true, decide_eq_true_eq] at hok
    obtain ⟨el, h1⟩ := hok
    subst el
    dsimp only [ex] at h
    split at h
    · exact g_lstore C hd h1 (hk rfl _ _ _ h)
    · exact h.elim
  | astore n =>
    simp only [okI, Bool.and_eq_true, decide_eq_true_eq] at hok
    obtain ⟨el, h1⟩ := hok
    subst el
    dsimp only [ex] at h
    split at h
    · exact g_astore C hd h1 (hk rfl _ _ _ h)
    · exact h.elim
  | iinc n k =>
    simp only [okI, Bool.and_eq_true, decide_eq_true_eq] at hok
    obtain ⟨el, h1⟩ := hok
    subst el
    dsimp only [ex] at h
    split at h
    · rename_i hg
      exact g_iinc C hd h1 hg (hk rfl _ _ _ h)
    · exact h.elim
  | ldc idx =>
    dsimp only [ex] at h
    split at h
    · simp only [okI, Bool.and_eq_true, decide_eq_true_eq] at hok
      obtain ⟨el, h1⟩ := hok
      subst el
      exact g_ldc C hd (CK_in ho h1) (hk rfl _ _ _ h)
    · simp only [okI, Bool.and_eq_true, decide_eq_true_eq] at hok
      obtain ⟨el, h1, h2, h3, h4⟩ := hok
      subst el; subst h1; subst h3; subst h4
      exact hSt.2.2 _ _ _ _ h2 hd (hk rfl _ _ _ h)
  | ldc_w idx =>
    simp only [okI, Bool.and_eq_true, decide_eq_true_eq] at hok
    obtain ⟨el, h1⟩ := hok
    subst el
    exact g_ldcw C hd (CK_in ho h1) (hk rfl _ _ _ h)
  | ldc2_w idx =>
    dsimp only [ex] at h
    split at h
    · simp only [okI, Bool.and_eq_true, decide_eq_true_eq] at hok
      obtain ⟨el, h1⟩ := hok
      subst el
      exact g_ldc2 C hd (CL_in ho h1) (hk rfl _ _ _ h)
    · simp only [okI, Bool.and_eq_true, decide_eq_true_eq] at hok
      obtain ⟨el, h1⟩ := hok
      subst el
      exact g_ldc2 C hd (CM_in ho h1) (hk rfl _ _ _ h)
  | ifCond cnd off =>
    simp only [okI, Bool.and_eq_true, decide_eq_true_eq] at hok
    obtain ⟨el, h1⟩ := hok
    subst el
    dsimp only [ex] at h
    split at h
    · cases cnd with
      | eq => exact g_if_eq C hd h1 h.1 (fun z => hk rfl _ _ _ (h.2 z))
      | ne => exact g_if_ne C hd h1 h.1 (fun z => hk rfl _ _ _ (h.2 z))
      | lt => exact g_if_lt C hd h1 h.1 (fun z => hk rfl _ _ _ (h.2 z))
      | ge => exact g_if_ge C hd h1 h.1 (fun z => hk rfl _ _ _ (h.2 z))
      | gt => exact g_if_gt C hd h1 h.1 (fun z => hk rfl _ _ _ (h.2 z))
      | le => exact g_if_le C hd h1 h.1 (fun z => hk rfl _ _ _ (h.2 z))
    · exact h.elim
  | if_icmp cnd off =>
    simp only [okI, Bool.and_eq_true, decide_eq_true_eq] at hok
    obtain ⟨el, h1⟩ := hok
    subst el
    dsimp only [ex] at h
    split at h
    · cases cnd with
      | eq => exact g_ic_eq C hd h1 h.1 (fun z => hk rfl _ _ _ (h.2 z))
      | ne => exact g_ic_ne C hd h1 h.1 (fun z => hk rfl _ _ _ (h.2 z))
      | lt => exact g_ic_lt C hd h1 h.1 (fun z => hk rfl _ _ _ (h.2 z))
      | ge => exact g_ic_ge C hd h1 h.1 (fun z => hk rfl _ _ _ (h.2 z))
      | gt => exact g_ic_gt C hd h1 h.1 (fun z => hk rfl _ _ _ (h.2 z))
      | le => exact g_ic_le C hd h1 h.1 (fun z => hk rfl _ _ _ (h.2 z))
    · exact h.elim
  | tableswitch dflt lo hi offs =>
    simp only [okI, Bool.and_eq_true, decide_eq_true_eq] at hok
    obtain ⟨h1, h2, h3⟩ := hok
    dsimp only [ex] at h
    split at h
    · exact g_tableswitch C hd h1 h2 h3 h.1 h.2
    · exact h.elim
  | lookupswitch dflt pps =>
    simp only [okI, Bool.and_eq_true, decide_eq_true_eq] at hok
    obtain ⟨h1, h2, h3⟩ := hok
    dsimp only [ex] at h
    split at h
    · exact g_lookupswitch C hd h3 h1 h2 h
    · exact h.elim
  | iaload =>
    have el : len = 1 := of_decide_eq_true hok
    subst el
    dsimp only [ex] at h
    split at h
    · rename_i j t i s'
      obtain ⟨kd, n, hsh⟩ : ∃ kd n, sh t = (kd, n) := ⟨_, _, rfl⟩
      rw [hsh] at h
      dsimp only at h
      cases hb : Nat.beq kd 1 with
      | false => rw [hb] at h; exact h.elim
      | true =>
        rw [hb] at h
        have hkd := Nat.eq_of_beq_eq_true hb
        subst hkd
        exact g_iaload C hd hsh h.1 (hk rfl _ _ _ h.2)
    · exact h.elim
  | laload =>
    have el : len = 1 := of_decide_eq_true hok
    subst el
    dsimp only [ex] at h
    split at h
    · rename_i j t i s'
      obtain ⟨kd, n, hsh⟩ : ∃ kd n, sh t = (kd, n) := ⟨_, _, rfl⟩
      rw [hsh] at h
      dsimp only at h
      cases hb : Nat.beq kd 2 with
      | false => rw [hb] at h; exact h.elim
      | true =>
        rw [hb] at h
        have hkd := Nat.eq_of_beq_eq_true hb
        subst hkd
        exact g_laload C hd hsh h.1 (hk rfl _ _ _ h.2)
    · exact h.elim
  | iastore =>
    have el : len = 1 := of_decide_eq_true hok
    subst el
    dsimp only [ex] at h
    split at h
    · rename_i x j t i s'
      obtain ⟨kd, n, hsh⟩ : ∃ kd n, sh t = (kd, n) := ⟨_, _, rfl⟩
      rw [hsh] at h
      dsimp only at h
      cases hb : Nat.beq kd 1 with
      | false => rw [hb] at h; exact h.elim
      | true =>
        rw [hb] at h
        have hkd := Nat.eq_of_beq_eq_true hb
        subst hkd
        exact g_iastore C hd hsh h.1 (hk rfl _ _ _ h.2)
    · exact h.elim
  | lastore =>
    have el : len = 1 := of_decide_eq_true hok
    subst el
    dsimp only [ex] at h
    split at h
    · rename_i x j t i s'
      obtain ⟨kd, n, hsh⟩ : ∃ kd n, sh t = (kd, n) := ⟨_, _, rfl⟩
      rw [hsh] at h
      dsimp only at h
      cases hb : Nat.beq kd 2 with
      | false => rw [hb] at h; exact h.elim
      | true =>
        rw [hb] at h
        have hkd := Nat.eq_of_beq_eq_true hb
        subst hkd
        exact g_lastore C hd hsh h.1 (hk rfl _ _ _ h.2)
    · exact h.elim
  | baload =>
    have el : len = 1 := of_decide_eq_true hok
    subst el
    dsimp only [ex] at h
    split at h
    · rename_i j t i s'
      obtain ⟨kd, n, hsh⟩ : ∃ kd n, sh t = (kd, n) := ⟨_, _, rfl⟩
      rw [hsh] at h
      dsimp only at h
      cases hb : Nat.beq kd 3 with
      | true =>
        rw [hb] at h
        have hkd := Nat.eq_of_beq_eq_true hb
        exact g_baload C hd hsh (Or.inl hkd) h.1 (hk rfl _ _ _ h.2)
      | false =>
        rw [hb] at h
        cases hb2 : Nat.beq kd 4 with
        | true =>
          rw [hb2] at h
          have hkd := Nat.eq_of_beq_eq_true hb2
          exact g_baload C hd hsh (Or.inr hkd) h.1 (hk rfl _ _ _ h.2)
        | false => rw [hb2] at h; exact h.elim
    · exact h.elim
  | bastore =>
    have el : len = 1 := of_decide_eq_true hok
    subst el
    dsimp only [ex] at h
    split at h
    · rename_i x j t i s'
      obtain ⟨kd, n, hsh⟩ : ∃ kd n, sh t = (kd, n) := ⟨_, _, rfl⟩
      rw [hsh] at h
      dsimp only at h
      cases hb : Nat.beq kd 3 with
      | true =>
        rw [hb] at h
        have hkd := Nat.eq_of_beq_eq_true hb
        subst hkd
        exact g_bastoreB C hd hsh h.1 (hk rfl _ _ _ h.2)
      | false =>
        rw [hb] at h
        cases hb2 : Nat.beq kd 4 with
        | true =>
          rw [hb2] at h
          have hkd := Nat.eq_of_beq_eq_true hb2
          subst hkd
          exact g_bastoreZ C hd hsh h.1 h.2.1 (hk rfl _ _ _ h.2.2)
        | false => rw [hb2] at h; exact h.elim
    · exact h.elim
  | aaload =>
    have el : len = 1 := of_decide_eq_true hok
    subst el
    dsimp only [ex] at h
    split at h
    · rename_i j t i s'
      obtain ⟨kd, n, hsh⟩ : ∃ kd n, sh t = (kd, n) := ⟨_, _, rfl⟩
      rw [hsh] at h
      dsimp only at h
      cases hb : Nat.beq kd 5 with
      | false => rw [hb] at h; exact h.elim
      | true =>
        rw [hb] at h
        have hkd := Nat.eq_of_beq_eq_true hb
        subst hkd
        dsimp only [cond_true] at h
        obtain ⟨u, d, hel⟩ : ∃ u d, elt t = (u, d) := ⟨_, _, rfl⟩
        rw [hel] at h
        exact g_aaload C hd hsh hel h.1 (hk rfl _ _ _ h.2)
    · exact h.elim
  | arraylength =>
    have el : len = 1 := of_decide_eq_true hok
    subst el
    dsimp only [ex] at h
    split at h
    · rename_i t i0 s'
      obtain ⟨kd, n, hsh⟩ : ∃ kd n, sh t = (kd, n) := ⟨_, _, rfl⟩
      rw [hsh] at h
      dsimp only at h
      cases hb : Nat.beq kd 1 || Nat.beq kd 2 with
      | false => rw [hb] at h; exact h.elim
      | true =>
        rw [hb] at h
        have hkd : kd = 1 ∨ kd = 2 := (Bool.or_eq_true _ _ ▸ hb).imp Nat.eq_of_beq_eq_true Nat.eq_of_beq_eq_true
        exact g_arraylength C hd hsh hkd (hk rfl _ _ _ h)
    · exact h.elim
  | ireturn =>
    simp only [okI, Bool.and_eq_true, decide_eq_true_eq] at hok
    obtain ⟨el, h1⟩ := hok
    subst el
    dsimp only [ex] at h
    split at h
    · rcases h1 with ⟨rfl, h1⟩ | ⟨rfl, h1⟩
      · rw [h1] at hret ⊢
        exact g_ireturn C hlk hret hd h
      · rw [h1] at hret ⊢
        exact g_zreturn C hlk hret hd h.1 h.2
    · exact h.elim
  | lreturn =>
    simp only [okI, Bool.and_eq_true, decide_eq_true_eq] at hok
    obtain ⟨el, h1⟩ := hok
    subst el
    dsimp only [ex] at h
    split at h
    · rw [h1] at hret ⊢
      exact g_lreturn C hlk hret hd h
    · exact h.elim
  | return_ =>
    simp only [okI, Bool.and_eq_true, decide_eq_true_eq] at hok
    obtain ⟨el, h1⟩ := hok
    subst el
    dsimp only [ex] at h
    split at h
    · rw [h1] at hret ⊢
      exact g_return C hlk hret hd h
    · exact h.elim
  | areturn =>
    simp only [okI, Bool.and_eq_true, decide_eq_true_eq] at hok
    obtain ⟨el, h1⟩ := hok
    subst el
    dsimp only [ex] at h
    split at h
    · rename_i t i
      cases hrt : rt y0 with
      | none => rw [hrt] at h1; cases h1
      | some ty =>
        rw [hrt] at hret h1
        cases ty with
        | object nm =>
          cases t with
          | zero => exact h.elim
          | succ t => exact g_areturn C hlk hret hd rfl h
        | _ => cases h1
    · exact h.elim
  | getfield idx =>
    dsimp only [ex] at h
    split at h
    · rename_i t i s' t0 k kd tg d rr
      simp only [okI, Bool.and_eq_true, decide_eq_true_eq] at hok
      obtain ⟨el, ha, hf, hk1, hsh, hfk, hkd⟩ := hok
      subst el
      cases hb : Nat.beq t t0 with
      | false => rw [hb] at h; exact h.elim
      | true =>
        rw [hb] at h
        have ht := Nat.eq_of_beq_eq_true hb
        subst ht
        dsimp only [cond_true] at h
        have hl := FL_in ho hf
        rcases hkd with rfl | rfl | rfl | ⟨rfl, q1, q2⟩ | ⟨rfl, q1, q2⟩ | ⟨rfl, q1, q2⟩
        · exact g_getfield (av := .inl (σ.1 t i k)) C hd ha hk1 hsh hl (by rw [hfk]; rfl) (fun _ _ => trivial) (hk rfl _ _ _ h)
        · exact g_getfield (av := .inr (.inl (σ.2.1 t i k))) C hd ha hk1 hsh hl (by rw [hfk]; rfl) (fun _ _ => trivial) (hk rfl _ _ _ h)
        · exact g_getfield (av := .inl (σ.1 t i k)) C hd ha hk1 hsh hl (by rw [hfk]; rfl) (fun _ _ => trivial) (hk rfl _ _ _ h)
        · exact g_getfield (av := .inr (.inr (tg, i))) C hd ha hk1 hsh hl (by rw [hfk]; rfl) (fun _ hi => Or.inr (Or.inl ⟨q1, Nat.lt_of_lt_of_le hi q2⟩)) (hk rfl _ _ _ h)
        · exact g_getfield (av := .inr (.inr (tg, σ.2.2 t i k))) C hd ha hk1 hsh hl (by rw [hfk]; exact (if_pos h.1).symm) (fun _ _ => Or.inr (Or.inl ⟨q1, Nat.lt_of_lt_of_le h.1 q2⟩)) (hk rfl _ _ _ h.2)
        · exact g_getfield (av := .inr (.inr (tg, d))) C hd ha hk1 hsh hl (by rw [hfk]; rfl) (fun _ _ => Or.inr (Or.inl ⟨q1, q2⟩)) (hk rfl _ _ _ h)
    · exact h.elim
  | putfield idx =>
    dsimp only [ex] at h
    split at h
    · rename_i v t i s' t0 k kd tg rr
      cases rr with
      | nil => exact absurd hok (by simp [okI])
      | cons d rr =>
          simp only [okI, Bool.and_eq_true, decide_eq_true_eq] at hok
          obtain ⟨el, ha, hf, hk1, hsh, hfk, hfin, hkd⟩ := hok
          subst el
          cases hb : Nat.beq t t0 with
          | false => rw [hb] at h; exact h.elim
          | true =>
            rw [hb] at h
            have ht := Nat.eq_of_beq_eq_true hb
            subst ht
            dsimp only [cond_true] at h
            have hl := FL_in ho hf
            rcases hkd with ⟨rfl, q1⟩ | ⟨rfl, q1⟩ | ⟨rfl, q1⟩ | ⟨rfl, q1, q2, q3, q4, q5⟩
            · rcases v with x | x | ⟨u, x⟩
              · exact g_putfield (av := .inl x) (σ' := wI σ t i k x) C hd ha hk1 hsh hl hfin (by rw [q1]; rfl) (by rw [q1]; rfl) (flds_set hk1 (by rw [hfk]; show Value.int _ = _; rw [upd_wI]; simp [upd, cv]) (fun j hj => ⟨by rw [upd_wI]; simp [upd, hj], rfl, rfl⟩)) (wI_ne _ _ _ _ _) (hk rfl _ _ _ h)
              · exact h.elim
              · exact h.elim
            · rcases v with x | x | ⟨u, x⟩
              · exact h.elim
              · exact g_putfield (av := .inr (.inl x)) (σ' := wL σ t i k x) C hd ha hk1 hsh hl hfin (by rw [q1]; rfl) (by rw [q1]; rfl) (flds_set hk1 (by rw [hfk]; show Value.long _ = _; rw [upd_wL]; simp [vp_updL, cv]) (fun j hj => ⟨rfl, by rw [upd_wL]; simp [vp_updL, hj], rfl⟩)) (wL_ne _ _ _ _ _) (hk rfl _ _ _ h)
              · exact h.elim
            · rcases v with x | x | ⟨u, x⟩
              · exact g_putfield (av := .inl x) (σ' := wI σ t i k x) C hd ha hk1 hsh hl hfin (by rw [q1]; exact (nar_bool h.1).2.1) (by rw [q1]; exact (nar_bool h.1).2.2) (flds_set hk1 (by rw [hfk]; show Value.int _ = _; rw [upd_wI]; simp [upd, cv]) (fun j hj => ⟨by rw [upd_wI]; simp [upd, hj], rfl, rfl⟩)) (wI_ne _ _ _ _ _) (hk rfl _ _ _ h.2)
              · exact h.elim
              · exact h.elim
            · rcases v with x | x | ⟨u, x⟩
              · exact h.elim
              · exact h.elim
              · replace h : (bif Nat.beq u tg then kont lv s' (wR σ t i k x) else False) := h
                cases hb2 : Nat.beq u tg with
                | false => rw [hb2] at h; exact h.elim
                | true =>
                  rw [hb2] at h
                  have hu := Nat.eq_of_beq_eq_true hb2
                  subst hu
                  intro hlv hsv
                  have hx : x < cn u := by
                    rcases hsv.hd with z | z | z
                    · exact absurd z.1 q2
                    · exact z.2
                    · omega
                  refine g_putfield (av := .inr (.inr (u, x))) (σ' := wR σ t i k x) C hd ha hk1 hsh hl hfin (fits_ref q4 q5).1 (fits_ref q4 q5).2 (flds_set hk1 ?_ (fun j hj => ⟨rfl, rfl, ?_⟩)) (wR_ne _ _ _ _ _) (hk rfl _ _ _ h) hlv hsv
                  · rw [hfk]
                    have e2 : (wR σ t i k x).2.2 t i k = x := by simp [wR]
                    show (if (wR σ t i k x).2.2 t i k < d then Value.ref (ad (u, (wR σ t i k x).2.2 t i k)) else Value.null) = _
                    rw [e2, if_pos (by rw [q3]; exact hx)]
                    rfl
                  · simp [wR, hj]
    · exact h.elim
  | invokevirtual idx =>
    dsimp only [ex] at h
    split at h
    · simp only [okI, Bool.and_eq_true, Bool.or_eq_true, decide_eq_true_eq] at hok
      obtain ⟨el, ⟨-, h1, h2⟩ | ⟨h0, -⟩⟩ := hok
      · subst el; subst h2
        split at h
        · rename_i t i s'
          cases hb : Nat.beq t 67 && Nat.ble s'.length 4 with
          | false => rw [hb] at h; exact h.elim
          | true =>
            rw [hb] at h
            rw [Bool.and_eq_true] at hb
            have ht := Nat.eq_of_beq_eq_true hb.1
            subst ht
            exact hSt.1 _ _ _ _ _ h1 hd (Nat.le_of_ble_eq_true hb.2) (hk rfl _ _ _ h)
        · exact h.elim
      · exact absurd h0 (by decide)
    · simp only [okI, Bool.and_eq_true, Bool.or_eq_true, decide_eq_true_eq] at hok
      obtain ⟨el, ⟨h0, -⟩ | ⟨-, h1, h2⟩⟩ := hok
      · exact absurd h0 (by decide)
      · subst el; subst h2
        split at h
        · rename_i j t i s'
          cases hb : Nat.beq t 67 && Nat.ble s'.length 4 with
          | false => rw [hb] at h; exact h.elim
          | true =>
            rw [hb] at h
            rw [Bool.and_eq_true] at hb
            have ht := Nat.eq_of_beq_eq_true hb.1
            subst ht
            exact hSt.2.1 _ _ _ _ _ _ h1 hd (Nat.le_of_ble_eq_true hb.2) h.1 (hk rfl _ _ _ h.2)
        · exact h.elim
    · rename_i n rk tr w rr
      simp only [okI, Bool.and_eq_true, decide_eq_true_eq] at hok
      obtain ⟨el, hm, hy1, hst, hn, hrk, hw, htr, hoc, hsh⟩ := hok
      subst el
      obtain ⟨yk1, -, yk3, yk4, yk5, yk6, -⟩ := YK_ok a hy1.1 hy1.2
      split at h
      · rename_i As s' hp
        obtain ⟨b, hb1, hb2, hb3⟩ := popA_eq _ _ _ _ _ hp
        rw [List.append_nil] at hb1
        subst hb1
        cases hb : recvOk tr As && (Nat.ble (argW As) w && Nat.ble s'.length 4) with
        | false => rw [hb] at h; exact h.elim
        | true =>
          rw [hb] at h
          simp only [Bool.and_eq_true] at hb
          obtain ⟨hr1, hr2, hr3⟩ := hb
          cases tr with
          | zero => exact absurd rfl htr
          | succ tr =>
            cases As with
            | nil => cases hr1
            | cons v0 As =>
              rcases v0 with x | x | ⟨u, i⟩
              · cases hr1
              · cases hr1
              · have hu := Nat.eq_of_beq_eq_true hr1
                subst hu
                have e1 : st = As.reverse ++ .inr (.inr (tr + 1, i)) :: s' := by rw [hb2, List.reverse_cons, List.append_assoc]; rfl
                rw [e1]
                refine g_callV (n := npar a) C hd yk1 yk6 (by rw [List.length_cons] at hb3; omega) (ML_in ho hm) (yk3 hst).1 (yk3 hst).2 hoc hsh yk5 (Nat.le_of_ble_eq_true hr3) (by rw [← hw]; exact Nat.le_of_ble_eq_true hr2) ?_
                have e2 : (fun (v : AV) (σ' : AM) => kont lv (bif Nat.beq rk 0 then s' else v :: s') σ') = fun v σ' => kont lv (if (rt a).isNone then s' else v :: s') σ' := by
                  funext v σ'
                  rw [hrk]
                  by_cases hz : (rt a).isNone = true
                  · rw [if_pos hz, if_pos hz]; rfl
                  · rw [if_neg hz, if_neg hz]; rfl
                dsimp only [cond_true] at h
                rw [e2] at h
                exact CALLm.mono h (fun v σ' z => hk rfl _ _ _ z)
      · exact h.elim
    · exact h.elim
  | invokestatic idx =>
    dsimp only [ex] at h
    split at h
    · simp only [okI, Bool.and_eq_true, decide_eq_true_eq] at hok
      obtain ⟨el, -, hac⟩ := hok
      subst el
      split at h
      · rename_i n dp t1 i1 sp t0 i0 s'
        obtain ⟨k0, n0, hs0⟩ : ∃ k n, sh t0 = (k, n) := ⟨_, _, rfl⟩
        obtain ⟨k1, n1, hs1⟩ : ∃ k n, sh t1 = (k, n) := ⟨_, _, rfl⟩
        rw [hs0, hs1] at h
        dsimp only at h
        cases hb : Nat.beq k0 k1 && Nat.ble s'.length 4 with
        | false => rw [hb] at h; exact h.elim
        | true =>
          rw [hb] at h
          rw [Bool.and_eq_true] at hb
          have e0 := Nat.eq_of_beq_eq_true hb.1
          subst e0
          have hle := Nat.le_of_ble_eq_true hb.2
          dsimp only [cond_true] at h
          cases hb1 : Nat.beq k0 1 with
          | true =>
            rw [hb1] at h
            have e1 := Nat.eq_of_beq_eq_true hb1
            subst e1
            exact g_copyI C hd (AC_in ho hac) AC_w hs0 hs1 hle h.1 (hk rfl _ _ _ h.2)
          | false =>
            rw [hb1] at h
            dsimp only [cond_false] at h
            cases hb2 : Nat.beq k0 2 with
            | true =>
              rw [hb2] at h
              have e1 := Nat.eq_of_beq_eq_true hb2
              subst e1
              exact g_copyL C hd (AC_in ho hac) AC_w hs0 hs1 hle h.1 (hk rfl _ _ _ h.2)
            | false => rw [hb2] at h; exact h.elim
      · exact h.elim
    · rename_i n rk x0 w rr
      simp only [okI, Bool.and_eq_true, Bool.or_eq_true, decide_eq_true_eq] at hok
      obtain ⟨el, hm, hy1, hst, hn, hrk, hw⟩ := hok
      subst el
      obtain ⟨yk1, yk2, -, yk4, yk5, yk6, -⟩ := YK_ok a hy1.1 hy1.2
      split at h
      · rename_i As s' hp
        obtain ⟨b, hb1, hb2, hb3⟩ := popA_eq _ _ _ _ _ hp
        rw [List.append_nil] at hb1
        subst hb1
        cases hb : Nat.ble (argW As) w && Nat.ble s'.length 4 with
        | false => rw [hb] at h; exact h.elim
        | true =>
          rw [hb] at h
          simp only [Bool.and_eq_true] at hb
          obtain ⟨hr2, hr3⟩ := hb
          rw [hb2]
          refine g_callS (n := npar a) C hd yk1 yk6 (by rw [hb3]; exact hn.symm) (hm.imp (ML_in ho) (MN_in ho)) (yk2 hst) (Nat.le_of_ble_eq_true hr3) (by rw [← hw]; exact Nat.le_of_ble_eq_true hr2) ?_
          have e2 : (fun (v : AV) (σ' : AM) => kont lv (bif Nat.beq rk 0 then s' else v :: s') σ') = fun v σ' => kont lv (if (rt a).isNone then s' else v :: s') σ' := by
            funext v σ'
            rw [hrk]
            by_cases hz : (rt a).isNone = true
            · rw [if_pos hz, if_pos hz]; rfl
            · rw [if_neg hz, if_neg hz]; rfl
          dsimp only [cond_true] at h
          rw [e2] at h
          exact CALLm.mono h (fun v σ' z => hk rfl _ _ _ z)
      · exact h.elim
    · exact h.elim
  | nop => exact absurd rfl hnop
  | _ => exact False.elim h
end EXS
