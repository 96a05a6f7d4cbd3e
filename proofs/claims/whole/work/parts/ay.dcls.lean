/-! the class reads a step: its operand -/
def dyS (p t i j : Nat) : Prop := (t = 3 ∧ i = 0 ∧ j ≠ 2 ∧ j ≠ 10) ∨ (37 ≤ t ∧ t ≤ 43 ∧ i = p) ∨ (t = 7 ∧ i = 0) ∨ (t = 8 ∧ i = 0)
def OD (σ : AM) (B : Nat → Int) (L p q : Nat) (R : Rd) (b : Bool) : Prop := match R with
  | .inl S => b = true ∧ CDy σ B L p q S
  | .inr (c, f) => b = false ∧ σ.1 3 0 3 = Int32.ofInt c ∧ σ.1 3 0 4 = Int32.ofInt (f : Int)
theorem OD.fl {σ : AM} {B : Nat → Int} {L f p q : Nat} {c : Int} : OD (fC σ B L f c) B L p q (dFl B L f c) false := ⟨rfl, by show (wI (wI σ 3 0 3 _) 3 0 4 _).1 3 0 3 = _; rw [wI1, if_neg (by omega), wI_16], by show (wI (wI σ 3 0 3 _) 3 0 4 _).1 3 0 4 = _; rw [wI_16]⟩
theorem fC_dy {σ : AM} {B : Nat → Int} {L f p : Nat} {c : Int} : ChA (dyS p) tkL σ (fC σ B L f c) := (ChA.wI (Or.inl ⟨rfl, rfl, by omega, by omega⟩)).tr (ChA.wI (Or.inl ⟨rfl, rfl, by omega, by omega⟩))
theorem tk_dy {σ σ' : AM} {p : Nat} (hc : ChA tkS tkL σ σ') : ChA (dyS p) tkL σ σ' := hc.mo (fun t i j z => Or.inl (by unfold tkS at z; omega)) (fun t i j z => z)
/-- a step is begun: its operand is still to come -/
def CP (σ : AM) (B : Nat → Int) (L p q : Nat) (S : DZ) (op f : Nat) : Prop := AC σ B L f ∧ σ.2.2 7 0 3 = p ∧ p < 5 ∧ σ.2.2 7 0 4 = q ∧ q < 9 ∧ σ.1 37 p 6 = Int32.ofInt ((S.2.1 : Int) + 1) ∧ σ.1 37 p 7 = Int32.ofInt ((S.2.2.2.2.2 : Int) + 1) ∧ σ.1 7 0 2 = Int32.ofInt ((S.2.2.2.1 : Int) + (op : Int)) ∧ (∀ i, i < S.2.2.2.1 → σ.1 8 0 i = Int32.ofInt (S.2.2.2.2.1 i : Int)) ∧ (op = 1 → σ.1 8 0 S.2.2.2.1 = Int32.ofInt (S.2.1 : Int)) ∧ (∀ k, k < S.2.1 → StC σ p k (S.2.2.1 k) ∧ (isOp (S.2.2.1 k 0) ∨ S.2.2.1 k 0 = 18 → (∀ i, i < S.2.2.2.1 → S.2.2.2.2.1 i ≠ k) → σ.1 43 p k = Int32.ofInt (S.2.2.1 k 4))) ∧ σ.1 3 0 3 = Int32.ofInt 0 ∧ σ.1 3 0 4 = Int32.ofInt (-1)
def opS (p s t0 t i j : Nat) : Prop := tkS t i j ∨ (t = t0 ∧ i = p ∧ j = s)
theorem StC.cg {σ σ' : AM} {p k : Nat} {f : Nat → Int} (h : StC σ p k f) (e : ∀ t, 38 ≤ t → t ≤ 42 → σ'.1 t p k = σ.1 t p k) : StC σ' p k f := by
  unfold StC at h ⊢
  rw [e 38 (by omega) (by omega), e 39 (by omega) (by omega), e 40 (by omega) (by omega), e 41 (by omega) (by omega), e 42 (by omega) (by omega)]
  exact h
theorem CP.cha {σ σ' : AM} {B : Nat → Int} {L p q op f f' : Nat} {S : DZ} {C CL : Nat → Nat → Nat → Prop} (h : CP σ B L p q S op f) (hc : ChA C CL σ σ') (ha : AC σ' B L f') (hs : ∀ t i j, C t i j → (t = 3 ∧ 5 ≤ j) ∨ (39 ≤ t ∧ t ≤ 42 ∧ j = S.2.1)) : CP σ' B L p q S op f' := by
  obtain ⟨h1, h2, h3, h4, h5, h6, h7, h8, h9, h10, h11, h12, h13⟩ := h
  have e : ∀ t i j, ¬ ((t = 3 ∧ 5 ≤ j) ∨ (39 ≤ t ∧ t ≤ 42 ∧ j = S.2.1)) → σ'.1 t i j = σ.1 t i j := fun t i j z => hc.1 t i j (fun y => z (hs t i j y))
  refine ⟨ha, by rw [hc.2.2]; exact h2, h3, by rw [hc.2.2]; exact h4, h5, by rw [e _ _ _ (by omega)]; exact h6, by rw [e _ _ _ (by omega)]; exact h7, by rw [e _ _ _ (by omega)]; exact h8, fun i hi => by rw [e _ _ _ (by omega)]; exact h9 i hi, fun ho => by rw [e _ _ _ (by omega)]; exact h10 ho, fun k hk => ⟨(h11 k hk).1.cg (fun t _ _ => e _ _ _ (by omega)), fun z1 z2 => by rw [e _ _ _ (by omega)]; exact (h11 k hk).2 z1 z2⟩, by rw [e _ _ _ (by omega)]; exact h12, by rw [e _ _ _ (by omega)]; exact h13⟩
theorem CP.tk {σ σ' : AM} {B : Nat → Int} {L p q op f f' : Nat} {S : DZ} (h : CP σ B L p q S op f) (hc : ChA tkS tkL σ σ') (ha : AC σ' B L f') : CP σ' B L p q S op f' := h.cha hc ha (fun t i j z => by unfold tkS at z; omega)
theorem CP.w {σ : AM} {B : Nat → Int} {L p q op f t0 : Nat} {S : DZ} {x : Int32} (h : CP σ B L p q S op f) (h1 : 39 ≤ t0) (h2 : t0 ≤ 42) : CP (wI σ t0 p S.2.1 x) B L p q S op f :=
  h.cha (C := fun t i j => t = t0 ∧ j = S.2.1) (CL := fun _ _ _ => False) (ChA.wI ⟨rfl, rfl⟩) (h.1.cha (S := fun t i j => t = t0 ∧ j = S.2.1) (SL := fun _ _ _ => False) (ChA.wI ⟨rfl, rfl⟩) (fun j _ z => by omega) (fun j z => by omega) (fun _ z => z) (fun z => z)) (fun t i j z => by omega)
theorem op_dy {σ σ' : AM} {p s t0 : Nat} (h1 : 39 ≤ t0) (h2 : t0 ≤ 42) (hc : ChA (opS p s t0) tkL σ σ') : ChA (dyS p) tkL σ σ' := hc.mo (fun t i j z => by unfold opS tkS at z; unfold dyS; omega) (fun _ _ _ z => z)
theorem CP.add {σ : AM} {B : Nat → Int} {L p q f : Nat} {S : DZ} {g : Nat → Int} (h : CP σ B L p q S 0 f) (hg : StC σ p S.2.1 g) (n1 : ¬ isOp (g 0)) (n2 : g 0 ≠ 18) : CDy σ B L p q (dAdd S f g) := by
  obtain ⟨f0, s, d, o, stk, non⟩ := S
  obtain ⟨h1, h2, h3, h4, h5, h6, h7, h8, h9, h10, h11, h12, h13⟩ := h
  dsimp only at h6 h7 h8 h9 h10 h11 hg
  refine ⟨h1, h2, h3, h4, h5, by rw [h6]; rfl, by rw [h7]; rfl, by rw [h8, show (o : Int) + ((0 : Nat) : Int) = (o : Int) by omega]; rfl, h9, fun k hk => ?_, h12, h13⟩
  have hk : k < s + 1 := hk
  show StC σ p k (upD d s g k) ∧ (isOp (upD d s g k 0) ∨ upD d s g k 0 = 18 → (∀ i, i < o → stk i ≠ k) → σ.1 43 p k = Int32.ofInt (upD d s g k 4))
  by_cases c : k = s
  · rw [c, upD_eq]
    exact ⟨hg, fun z => absurd z (fun y => y.elim n1 n2)⟩
  · rw [upD_ne c]
    exact h11 k (by omega)
theorem CP.opn {σ : AM} {B : Nat → Int} {L p q f : Nat} {S : DZ} {g : Nat → Int} (h : CP σ B L p q S 1 f) (hg : StC σ p S.2.1 g) : CDy σ B L p q (dOpn S f g) := by
  obtain ⟨f0, s, d, o, stk, non⟩ := S
  obtain ⟨h1, h2, h3, h4, h5, h6, h7, h8, h9, h10, h11, h12, h13⟩ := h
  dsimp only at h6 h7 h8 h9 h10 h11 hg
  refine ⟨h1, h2, h3, h4, h5, by rw [h6]; rfl, by rw [h7]; rfl, by rw [h8]; rfl, fun i hi => ?_, fun k hk => ?_, h12, h13⟩
  · have hi : i < o + 1 := hi
    show _ = Int32.ofInt ((upS stk o s i : Nat) : Int)
    unfold upS
    by_cases c : i = o
    · rw [if_pos c, c]; exact h10 rfl
    · rw [if_neg c]; exact h9 i (by omega)
  have hk : k < s + 1 := hk
  show StC σ p k (upD d s g k) ∧ (isOp (upD d s g k 0) ∨ upD d s g k 0 = 18 → (∀ i, i < o + 1 → upS stk o s i ≠ k) → σ.1 43 p k = Int32.ofInt (upD d s g k 4))
  by_cases c : k = s
  · rw [c, upD_eq]
    exact ⟨hg, fun _ z => absurd (if_pos rfl) (z o (by omega))⟩
  · rw [upD_ne c]
    refine ⟨(h11 k (by omega)).1, fun z1 z2 => (h11 k (by omega)).2 z1 (fun i hi => ?_)⟩
    have := z2 i (by omega)
    unfold upS at this
    rw [if_neg (by omega)] at this
    exact this
theorem HN.cha {σ σ' : AM} {p q a b : Nat} {tn mn : Nat → List Nat} (h : HN σ q tn mn a b) (hc : ChA (dyS p) tkL σ σ') : HN σ' q tn mn a b := by
  obtain ⟨h1, h2, h3, h4, h5, h6⟩ := h
  exact ⟨h1, h2, by rw [hc.1 _ _ _ (by unfold dyS; omega)]; exact h3, by rw [hc.1 _ _ _ (by unfold dyS; omega)]; exact h4, fun t ht => by rw [hc.2.1 _ _ _ (by unfold tkL; omega)]; exact h5 t ht, fun t ht => by rw [hc.2.1 _ _ _ (by unfold tkL; omega)]; exact h6 t ht⟩
theorem opF_bd (P : Nat → Bool) (c : Nat) : -1 ≤ opI (firstF P c 0) ∧ opI (firstF P c 0) < (c : Int) := by
  cases e : firstF P c 0 with
  | none => exact ⟨by show (-1 : Int) ≤ -1; omega, by show (-1 : Int) < (c : Int); omega⟩
  | some t =>
    have := (firstF_lt e).1
    exact ⟨by show (-1 : Int) ≤ (t : Int); omega, by show (t : Int) < (c : Int); omega⟩
theorem c_dmf {CALL : CT} (hC : RuleAll CALL) {r : Nat} {σ : AM} {K : AV → AM → Prop} {B : Nat → Int} {L q f a b : Nat} {tn mn : Nat → List Nat} (ha : AC σ B L f) (hn : HN σ q tn mn a b) (h : ∀ x : Int, -1 ≤ x → x ≤ 100 → (isNm B L f = true → x = opI (fnW mn b (wdH B L f))) → K (.inl (Int32.ofInt x)) σ) : CALL (r + 1) n_Monks_find [.inr (.inr (27, q)), .inr (.inl (σ.2.1 3 0 9))] σ K := by
  obtain ⟨h1, h2, h3, h4, h5, h6⟩ := id hn
  refine s_mfind hC (c := b) h4 h2 ?_
  rw [show σ.2.1 3 0 9 = Int64.ofInt (nmT B L f) from ha.2.2.2.2.2.2.2.2.1]
  have cf := cfind (B := B) (L := L) (f := f) (c := b) (tn := mn) (nm := fun t => σ.2.1 28 q t) ha.2.2.2.1 h6
  have bd := opF_bd (fun t => decide (σ.2.1 28 q t = Int64.ofInt (nmT B L f))) b
  exact h _ bd.1 (by omega) (fun e => by rw [cf.1 e])
theorem c_dtf {CALL : CT} (hC : RuleAll CALL) {r : Nat} {σ : AM} {K : AV → AM → Prop} {B : Nat → Int} {L q f a b : Nat} {tn mn : Nat → List Nat} (ha : AC σ B L f) (hn : HN σ q tn mn a b) (h : ∀ x : Int, -1 ≤ x → x ≤ 100 → (isNm B L f = true → x = opI (fnW tn a (wdH B L f))) → K (.inl (Int32.ofInt x)) σ) : CALL (r + 1) n_Topics_find [.inr (.inr (23, q)), .inr (.inl (σ.2.1 3 0 9))] σ K := by
  obtain ⟨h1, h2, h3, h4, h5, h6⟩ := id hn
  refine s_tfind hC (c := a) h3 h1 ?_
  rw [show σ.2.1 3 0 9 = Int64.ofInt (nmT B L f) from ha.2.2.2.2.2.2.2.2.1]
  have cf := cfind (B := B) (L := L) (f := f) (c := a) (tn := tn) (nm := fun t => σ.2.1 24 q t) ha.2.2.2.1 h5
  have bd := opF_bd (fun t => decide (σ.2.1 24 q t = Int64.ofInt (nmT B L f))) a
  exact h _ bd.1 (by omega) (fun e => by rw [cf.1 e])
/-- a name that is known, passed: the days' own -/
theorem c_dold {CALL : CT} (hC : RuleAll CALL) {r : Nat} {σ : AM} {K : AV → AM → Prop} {B : Nat → Int} {L f p q c : Nat} {tn : Nat → List Nat} {x : Int} {k : Nat → Nat → Rd} (ha : AC σ B L f) (x1 : -1 ≤ x) (x2 : x ≤ 100) (hx : isNm B L f = true → x = opI (fnW tn c (wdH B L f))) (h1 : ∀ (t : Nat) (σ' : AM), t < c → x = (t : Int) → AC σ' B L (nxT B L f) → ChA tkS tkL σ σ' → dOld B L tn c f k = k t (nxT B L f) → K (.inl (Int32.ofInt 1)) σ') (h2 : ∀ σ' : AM, OD σ' B L p q (dOld B L tn c f k) false → ChA (dyS p) tkL σ σ' → K (.inl (Int32.ofInt 0)) σ') : CALL (r + 3) n_Tape_skipName [.inr (.inr (3, 0)), .inl (Int32.ofInt x)] σ K := by
  have fb := fnW_bd tn c (wdH B L f)
  refine s_skipNm hC ha x1 x2 (fun z z2 σ' k1 k2 => ?_) (fun z => ?_) (fun z z2 => ?_)
  · have e := hx z
    cases ef : fnW tn c (wdH B L f) with
    | none =>
      rw [ef] at e
      exact absurd e z2
    | some t =>
      rw [ef] at e
      refine h1 t σ' (fnW_lt ef) e k1 k2 ?_
      unfold dOld
      rw [if_neg (by rw [z]; decide), ef]
  · refine h2 _ ?_ fC_dy
    unfold dOld
    rw [if_pos z]
    exact OD.fl
  · have e := hx z
    refine h2 _ ?_ fC_dy
    have ef : fnW tn c (wdH B L f) = none := fb.2.2.1.mp (by omega)
    unfold dOld
    rw [if_neg (by rw [z]; decide), ef]
    exact OD.fl
theorem w_op {σ : AM} {p s t0 : Nat} {x : Int32} : ChA (opS p s t0) tkL σ (wI σ t0 p s x) := ChA.wI (Or.inr ⟨rfl, rfl, rfl⟩)
theorem tk_op {σ σ' : AM} {p s t0 : Nat} (h : ChA tkS tkL σ σ') : ChA (opS p s t0) tkL σ σ' := h.mo (fun _ _ _ z => Or.inl z) (fun _ _ _ z => z)
theorem c_dmonk {CALL : CT} (hC : RuleAll CALL) {r : Nat} {σ : AM} {K : AV → AM → Prop} {B : Nat → Int} {L p q op f a b : Nat} {tn mn : Nat → List Nat} {S : DZ} {k : Nat → Nat → Rd} (hc : CP σ B L p q S op f) (hn : HN σ q tn mn a b) (hs : S.2.1 < 60) (h1 : ∀ (m : Nat) (σ' : AM), CP σ' B L p q S op (nxT B L f) → m < b → σ'.1 39 p S.2.1 = Int32.ofInt (m : Int) → ChA (opS p S.2.1 39) tkL σ σ' → dOld B L mn b f k = k m (nxT B L f) → K (.inl (Int32.ofInt 1)) σ') (h2 : ∀ σ' : AM, OD σ' B L p q (dOld B L mn b f k) false → ChA (dyS p) tkL σ σ' → K (.inl (Int32.ofInt 0)) σ') : CALL (r + 4) n_DaysReader_takesMonk [.inr (.inr (7, 0)), .inl (Int32.ofInt (S.2.1 : Int))] σ K := by
  refine r_DaysReader_takesMonk hC (fun J hJ => ?_)
  refine hJ _ _ _ _ ?_
  conv => whnf
  obtain ⟨c1, c2, c3, c4, c5, -⟩ := id hc
  rw [c2]
  refine ⟨c3, ?_⟩
  conv => whnf
  rw [c4]
  refine ⟨c5, ?_⟩
  conv => whnf
  refine c_dmf hC c1 hn (fun x x1 x2 x3 => ?_)
  conv => whnf
  refine ⟨(oi_in (by omega) (by omega)).mpr ⟨by omega, by omega⟩, ?_⟩
  conv => whnf
  rw [oi_nat (by omega) (by omega), Int.toNat_natCast]
  rw [show (wI σ 39 p S.2.1 (Int32.ofInt x)).2.2 7 0 3 = p from c2]
  refine ⟨c3, ?_⟩
  conv => whnf
  refine ⟨(oi_in (by omega) (by omega)).mpr ⟨by omega, by omega⟩, ?_⟩
  conv => whnf
  rw [oi_nat (by omega) (by omega), Int.toNat_natCast, wI_16]
  have hc2 := hc.w (t0 := 39) (x := Int32.ofInt x) (by omega) (by omega)
  refine c_dold hC (p := p) (q := q) (k := k) hc2.1 x1 x2 x3 (fun t σ' t1 t2 a2 f2 e2 => ?_) (fun σ' o2 f2 => ?_)
  · conv => whnf
    refine ⟨Or.inr rfl, h1 t σ' (hc2.tk f2 a2) t1 ?_ (w_op.tr (tk_op f2)) e2⟩
    rw [f2.1 _ _ _ (by unfold tkS; omega), wI_16, t2]
  · conv => whnf
    exact ⟨Or.inl rfl, h2 σ' o2 ((op_dy (by omega) (by omega) w_op).tr f2)⟩
theorem c_dnum {CALL : CT} (hC : RuleAll CALL) {r : Nat} {σ : AM} {K : AV → AM → Prop} {B : Nat → Int} {L p q op f : Nat} {lo hi : Int} {S : DZ} {k : Int → Nat → Rd} (hc : CP σ B L p q S op f) (l1 : 0 ≤ lo) (l2 : lo ≤ 10000) (u1 : 0 ≤ hi) (u2 : hi ≤ 10000) (hs : S.2.1 < 60) (h1 : ∀ (v : Int) (σ' : AM), CP σ' B L p q S op (nxT B L f) → lo ≤ v → v ≤ hi → σ'.1 40 p S.2.1 = Int32.ofInt v → ChA (opS p S.2.1 40) tkL σ σ' → dNum B L lo hi f k = k v (nxT B L f) → K (.inl (Int32.ofInt 1)) σ') (h2 : ∀ σ' : AM, OD σ' B L p q (dNum B L lo hi f k) false → ChA (dyS p) tkL σ σ' → K (.inl (Int32.ofInt 0)) σ') : CALL (r + 4) n_DaysReader_takesNumber [.inr (.inr (7, 0)), .inl (Int32.ofInt (S.2.1 : Int)), .inl (Int32.ofInt lo), .inl (Int32.ofInt hi)] σ K := by
  refine r_DaysReader_takesNumber hC (fun J hJ => ?_)
  refine hJ _ _ _ _ ?_
  conv => whnf
  obtain ⟨c1, c2, c3, c4, c5, -⟩ := id hc
  rw [c2]
  refine ⟨c3, ?_⟩
  conv => whnf
  have e3 : ∀ σ' : AM, σ'.2.2 = σ.2.2 → ∀ x, (wI σ' 40 p S.2.1 x).2.2 7 0 3 = p := fun σ' e x => by
    show σ'.2.2 7 0 3 = p
    rw [e]; exact c2
  have bad : ∀ c : Int, dNum B L lo hi f k = dFl B L f c → OD (wI (fC σ B L f c) 40 p S.2.1 (Int32.ofInt (-1))) B L p q (dNum B L lo hi f k) false ∧ ChA (dyS p) tkL σ (wI (fC σ B L f c) 40 p S.2.1 (Int32.ofInt (-1))) := fun c e => by
    rw [e]
    refine ⟨⟨rfl, ?_, ?_⟩, fC_dy.tr (op_dy (by omega) (by omega) w_op)⟩
    · rw [wI1, if_neg (by omega)]; exact (OD.fl (p := p) (q := q)).2.1
    · rw [wI1, if_neg (by omega)]; exact (OD.fl (p := p) (q := q)).2.2
  refine s_takeNumber hC c1 l1 l2 u1 u2 (fun z σ' k1 k2 => ?_) (fun z => ?_) (fun z z2 => ?_)
  · conv => whnf
    refine ⟨(oi_in (by omega) (by omega)).mpr ⟨by omega, by omega⟩, ?_⟩
    conv => whnf
    rw [oi_nat (by omega) (by omega), Int.toNat_natCast, e3 σ' k2.2.2]
    refine ⟨c3, ?_⟩
    conv => whnf
    refine ⟨(oi_in (by omega) (by omega)).mpr ⟨by omega, by omega⟩, ?_⟩
    conv => whnf
    rw [oi_nat (by omega) (by omega), Int.toNat_natCast, wI_16]
    refine ⟨fun c6 => ?_, fun c6 => ?_⟩ <;> (try simp (disch := omega) only [oi_le, oi_lt, oi_eq, oi_lt0, oi_le0, oi_0lt, oi_0le, oi_eq0, oi_eq1, bI_eq0, bI_ne0, bI_eq1, decide_eq_true_eq, decide_eq_false_iff_not, lc_lt, lc_gt, lc_eq, lc_ge, lc_le, ol_lt, ol_eq, ne_eq, Int.not_lt, Int.not_le, Bool.not_eq_true, Bool.not_eq_false, Decidable.not_not, not_true_eq_false, not_false_eq_true, Bool.true_eq_false, Bool.false_eq_true] at c6) <;> (first | (exfalso; omega) | ((with_reducible refine hJ _ _ _ _ ?_); conv => whnf) | (conv => whnf))
    refine hJ _ _ _ _ ?_
    conv => whnf
    refine ⟨Or.inr rfl, h1 (vlT B L f) _ ((hc.tk k2 k1).w (by omega) (by omega)) z.2.1 z.2.2 wI_16 ((tk_op k2).tr w_op) ?_⟩
    unfold dNum
    rw [if_neg (fun y => y z.1), if_neg (fun y => y z.2)]
  · conv => whnf
    refine ⟨(oi_in (by omega) (by omega)).mpr ⟨by omega, by omega⟩, ?_⟩
    conv => whnf
    rw [oi_nat (by omega) (by omega), Int.toNat_natCast, e3 (fC σ B L f 2) rfl]
    refine ⟨c3, ?_⟩
    conv => whnf
    refine ⟨(oi_in (by omega) (by omega)).mpr ⟨by omega, by omega⟩, ?_⟩
    conv => whnf
    rw [oi_nat (by omega) (by omega), Int.toNat_natCast, wI_16]
    refine ⟨fun c6 => ?_, fun c6 => ?_⟩ <;> (try simp (disch := omega) only [oi_le, oi_lt, oi_eq, oi_lt0, oi_le0, oi_0lt, oi_0le, oi_eq0, oi_eq1, bI_eq0, bI_ne0, bI_eq1, decide_eq_true_eq, decide_eq_false_iff_not, lc_lt, lc_gt, lc_eq, lc_ge, lc_le, ol_lt, ol_eq, ne_eq, Int.not_lt, Int.not_le, Bool.not_eq_true, Bool.not_eq_false, Decidable.not_not, not_true_eq_false, not_false_eq_true, Bool.true_eq_false, Bool.false_eq_true] at c6) <;> (first | (exfalso; omega) | ((with_reducible refine hJ _ _ _ _ ?_); conv => whnf) | (conv => whnf))
    refine hJ _ _ _ _ ?_
    conv => whnf
    have b := bad 2 (if_pos z)
    exact ⟨Or.inl rfl, h2 _ b.1 b.2⟩
  · conv => whnf
    refine ⟨(oi_in (by omega) (by omega)).mpr ⟨by omega, by omega⟩, ?_⟩
    conv => whnf
    rw [oi_nat (by omega) (by omega), Int.toNat_natCast, e3 (fC σ B L f 4) rfl]
    refine ⟨c3, ?_⟩
    conv => whnf
    refine ⟨(oi_in (by omega) (by omega)).mpr ⟨by omega, by omega⟩, ?_⟩
    conv => whnf
    rw [oi_nat (by omega) (by omega), Int.toNat_natCast, wI_16]
    refine ⟨fun c6 => ?_, fun c6 => ?_⟩ <;> (try simp (disch := omega) only [oi_le, oi_lt, oi_eq, oi_lt0, oi_le0, oi_0lt, oi_0le, oi_eq0, oi_eq1, bI_eq0, bI_ne0, bI_eq1, decide_eq_true_eq, decide_eq_false_iff_not, lc_lt, lc_gt, lc_eq, lc_ge, lc_le, ol_lt, ol_eq, ne_eq, Int.not_lt, Int.not_le, Bool.not_eq_true, Bool.not_eq_false, Decidable.not_not, not_true_eq_false, not_false_eq_true, Bool.true_eq_false, Bool.false_eq_true] at c6) <;> (first | (exfalso; omega) | ((with_reducible refine hJ _ _ _ _ ?_); conv => whnf) | (conv => whnf))
    refine hJ _ _ _ _ ?_
    conv => whnf
    have b := bad 4 (by unfold dNum; rw [if_neg (fun y => y z), if_pos z2])
    exact ⟨Or.inl rfl, h2 _ b.1 b.2⟩
