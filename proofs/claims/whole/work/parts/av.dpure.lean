theorem DI.at {a b : Int} {L f : Nat} {S : DZ} {dep : Nat → Nat} (h : DI a b L S dep) (hf : f ≤ L) : DI a b L (f, S.2) dep := ⟨hf, h.2⟩
theorem DI.add {a b : Int} {L f : Nat} {S : DZ} {dep : Nat → Nat} {g : Nat → Int} (h : DI a b L S dep) (hf : f ≤ L) (hn : S.2.2.2.2.2 < 30) (hg : StepOk a b g) (h1 : ¬ isOp (g 0)) (h2 : g 0 ≠ 18) : DI a b L (dAdd S f g) (upS dep (S.2.1 + 1) S.2.2.2.1) := by
  obtain ⟨f0, s, d, o, stk, non⟩ := S
  obtain ⟨p1, p2, p3, p4, p5, p6, p7, p8, p9⟩ := h
  dsimp only at p2 p3 p4 p5 p6 p7 p8 p9 hn
  have u : ∀ k, k ≤ s → upS dep (s + 1) o k = dep k := fun k hk => if_neg (by omega)
  have us : upS dep (s + 1) o (s + 1) = o := if_pos rfl
  have ud : ∀ k, k < s → upD d s g k = d k := fun k hk => upD_ne (by omega)
  refine ⟨hf, by dsimp only [dAdd]; omega, by dsimp only [dAdd]; omega, p4, by rw [u 0 (by omega)]; exact p5, us, fun k hk => ?_, fun i hi => ?_, fun k hk => ?_⟩
  · have hk : k ≤ s + 1 := hk
    by_cases c : k = s + 1
    · rw [c]; show upS dep (s + 1) o (s + 1) ≤ 3; rw [us]; exact p4
    · show upS dep (s + 1) o k ≤ 3; rw [u k (by omega)]; exact p7 k (by omega)
  · obtain ⟨q1, q2, q3, q4⟩ := p8 i hi
    show stk i < s + 1 ∧ isOp (upD d s g (stk i) 0) ∧ upS dep (s + 1) o (stk i) = i ∧ ∀ q, stk i < q → q ≤ s + 1 → i < upS dep (s + 1) o q
    rw [ud _ q1, u _ (by omega)]
    refine ⟨by omega, q2, q3, fun q z1 z2 => ?_⟩
    by_cases c : q = s + 1
    · rw [c, us]; exact hi
    · rw [u q (by omega)]; exact q4 q z1 (by omega)
  · have hk : k < s + 1 := hk
    show StepOk a b (upD d s g k) ∧ (isOp (upD d s g k 0) → upS dep (s + 1) o (k + 1) = upS dep (s + 1) o k + 1 ∧ ((∃ i, i < o ∧ stk i = k) ∨ ∃ e : Nat, upD d s g k 4 = (e : Int) ∧ k < e ∧ e < s + 1 ∧ upD d s g e 0 = 18 ∧ upD d s g e 4 = (k : Int) ∧ upS dep (s + 1) o (e + 1) = upS dep (s + 1) o k ∧ ∀ q, k < q → q ≤ e → upS dep (s + 1) o k < upS dep (s + 1) o q)) ∧ (upD d s g k 0 = 18 → upS dep (s + 1) o k = upS dep (s + 1) o (k + 1) + 1 ∧ ∃ w : Nat, upD d s g k 4 = (w : Int) ∧ w < k ∧ isOp (upD d s g w 0) ∧ upD d s g w 4 = (k : Int) ∧ upS dep (s + 1) o (k + 1) = upS dep (s + 1) o w) ∧ (¬ isOp (upD d s g k 0) → upD d s g k 0 ≠ 18 → upS dep (s + 1) o (k + 1) = upS dep (s + 1) o k)
    by_cases c : k = s
    · rw [c, upD_eq, us, u s (by omega)]
      exact ⟨hg, fun z => absurd z h1, fun z => absurd z h2, fun _ _ => p6.symm⟩
    · have hk2 : k < s := by omega
      obtain ⟨q1, q2, q3, q4⟩ := p9 k hk2
      rw [ud k hk2, u k (by omega), u (k + 1) (by omega)]
      refine ⟨q1, fun z => ?_, fun z => ?_, q4⟩
      · obtain ⟨w1, w2⟩ := q2 z
        refine ⟨w1, ?_⟩
        rcases w2 with w2 | ⟨e, e1, e2, e3, e4, e5, e6, e7⟩
        · exact Or.inl w2
        · refine Or.inr ⟨e, e1, e2, by omega, by rw [ud e e3]; exact e4, by rw [ud e e3]; exact e5, by rw [u (e + 1) (by omega)]; exact e6, fun q z1 z2 => by rw [u q (by omega)]; exact e7 q z1 z2⟩
      · obtain ⟨w1, w, w2, w3, w4, w5, w6⟩ := q3 z
        exact ⟨w1, w, w2, w3, by rw [ud w (by omega)]; exact w4, by rw [ud w (by omega)]; exact w5, by rw [u w (by omega)]; exact w6⟩
theorem DI.opn {a b : Int} {L f : Nat} {S : DZ} {dep : Nat → Nat} {g : Nat → Int} (h : DI a b L S dep) (hf : f ≤ L) (hn : S.2.2.2.2.2 < 30) (ho : S.2.2.2.1 < 3) (hg : StepOk a b g) (h1 : isOp (g 0)) (h2 : g 0 ≠ 18) : DI a b L (dOpn S f g) (upS dep (S.2.1 + 1) (S.2.2.2.1 + 1)) := by
  obtain ⟨f0, s, d, o, stk, non⟩ := S
  obtain ⟨p1, p2, p3, p4, p5, p6, p7, p8, p9⟩ := h
  dsimp only at p2 p3 p4 p5 p6 p7 p8 p9 hn ho
  have u : ∀ k, k ≤ s → upS dep (s + 1) (o + 1) k = dep k := fun k hk => if_neg (by omega)
  have us : upS dep (s + 1) (o + 1) (s + 1) = o + 1 := if_pos rfl
  have ud : ∀ k, k < s → upD d s g k = d k := fun k hk => upD_ne (by omega)
  have uo : ∀ i, i < o → upS stk o s i = stk i := fun i hi => if_neg (by omega)
  have uo2 : upS stk o s o = s := if_pos rfl
  refine ⟨hf, by dsimp only [dOpn]; omega, by dsimp only [dOpn]; omega, by dsimp only [dOpn]; omega, by rw [u 0 (by omega)]; exact p5, us, fun k hk => ?_, fun i hi => ?_, fun k hk => ?_⟩
  · have hk : k ≤ s + 1 := hk
    by_cases c : k = s + 1
    · rw [c]; show upS dep (s + 1) (o + 1) (s + 1) ≤ 3; rw [us]; omega
    · show upS dep (s + 1) (o + 1) k ≤ 3; rw [u k (by omega)]; exact p7 k (by omega)
  · have hi : i < o + 1 := hi
    show upS stk o s i < s + 1 ∧ isOp (upD d s g (upS stk o s i) 0) ∧ upS dep (s + 1) (o + 1) (upS stk o s i) = i ∧ ∀ q, upS stk o s i < q → q ≤ s + 1 → i < upS dep (s + 1) (o + 1) q
    by_cases c : i = o
    · rw [c, uo2, upD_eq, u s (by omega)]
      refine ⟨by omega, h1, p6, fun q z1 z2 => ?_⟩
      rw [show q = s + 1 by omega, us]; omega
    · obtain ⟨q1, q2, q3, q4⟩ := p8 i (by omega)
      rw [uo i (by omega), ud _ q1, u _ (by omega)]
      refine ⟨by omega, q2, q3, fun q z1 z2 => ?_⟩
      by_cases c : q = s + 1
      · rw [c, us]; omega
      · rw [u q (by omega)]; exact q4 q z1 (by omega)
  · have hk : k < s + 1 := hk
    show StepOk a b (upD d s g k) ∧ (isOp (upD d s g k 0) → upS dep (s + 1) (o + 1) (k + 1) = upS dep (s + 1) (o + 1) k + 1 ∧ ((∃ i, i < o + 1 ∧ upS stk o s i = k) ∨ ∃ e : Nat, upD d s g k 4 = (e : Int) ∧ k < e ∧ e < s + 1 ∧ upD d s g e 0 = 18 ∧ upD d s g e 4 = (k : Int) ∧ upS dep (s + 1) (o + 1) (e + 1) = upS dep (s + 1) (o + 1) k ∧ ∀ q, k < q → q ≤ e → upS dep (s + 1) (o + 1) k < upS dep (s + 1) (o + 1) q)) ∧ (upD d s g k 0 = 18 → upS dep (s + 1) (o + 1) k = upS dep (s + 1) (o + 1) (k + 1) + 1 ∧ ∃ w : Nat, upD d s g k 4 = (w : Int) ∧ w < k ∧ isOp (upD d s g w 0) ∧ upD d s g w 4 = (k : Int) ∧ upS dep (s + 1) (o + 1) (k + 1) = upS dep (s + 1) (o + 1) w) ∧ (¬ isOp (upD d s g k 0) → upD d s g k 0 ≠ 18 → upS dep (s + 1) (o + 1) (k + 1) = upS dep (s + 1) (o + 1) k)
    by_cases c : k = s
    · rw [c, upD_eq, us, u s (by omega), p6]
      exact ⟨hg, fun _ => ⟨rfl, Or.inl ⟨o, by omega, uo2⟩⟩, fun z => absurd z h2, fun z => absurd h1 z⟩
    · have hk2 : k < s := by omega
      obtain ⟨q1, q2, q3, q4⟩ := p9 k hk2
      rw [ud k hk2, u k (by omega), u (k + 1) (by omega)]
      refine ⟨q1, fun z => ?_, fun z => ?_, q4⟩
      · obtain ⟨w1, w2⟩ := q2 z
        refine ⟨w1, ?_⟩
        rcases w2 with ⟨i, w2, w3⟩ | ⟨e, e1, e2, e3, e4, e5, e6, e7⟩
        · exact Or.inl ⟨i, by omega, by rw [uo i w2]; exact w3⟩
        · refine Or.inr ⟨e, e1, e2, by omega, by rw [ud e e3]; exact e4, by rw [ud e e3]; exact e5, by rw [u (e + 1) (by omega)]; exact e6, fun q z1 z2 => by rw [u q (by omega)]; exact e7 q z1 z2⟩
      · obtain ⟨w1, w, w2, w3, w4, w5, w6⟩ := q3 z
        exact ⟨w1, w, w2, w3, by rw [ud w (by omega)]; exact w4, by rw [ud w (by omega)]; exact w5, by rw [u w (by omega)]; exact w6⟩
theorem isOp_18 : ¬ isOp 18 := by unfold isOp; omega
theorem DI.end {a b : Int} {L f : Nat} {S : DZ} {dep : Nat → Nat} (h : DI a b L S dep) (hf : f ≤ L) (ho : 1 ≤ S.2.2.2.1) : DI a b L (dEnd S f) (upS dep (S.2.1 + 1) (S.2.2.2.1 - 1)) := by
  obtain ⟨f0, s, d, o, stk, non⟩ := S
  obtain ⟨p1, p2, p3, p4, p5, p6, p7, p8, p9⟩ := h
  dsimp only at p2 p3 p4 p5 p6 p7 p8 p9 ho
  obtain ⟨t1, t2, t3, t4⟩ := p8 (o - 1) (by omega)
  unfold dEnd
  dsimp only
  revert t1 t2 t3 t4
  generalize ht : stk (o - 1) = t
  intro t1 t2 t3 t4
  have u : ∀ k, k ≤ s → upS dep (s + 1) (o - 1) k = dep k := fun k hk => if_neg (by omega)
  have us : upS dep (s + 1) (o - 1) (s + 1) = o - 1 := if_pos rfl
  generalize hD : upD (upD d s (up (stp 18 0 0 0) 4 (t : Int))) t (up (d t) 4 (s : Int)) = D
  have dt : D t = up (d t) 4 (s : Int) := by rw [← hD, upD_eq]
  have ds : D s = up (stp 18 0 0 0) 4 (t : Int) := by rw [← hD, upD_ne (by omega), upD_eq]
  have dk : ∀ k, k ≠ s → k ≠ t → D k = d k := fun k h1 h2 => by rw [← hD, upD_ne h2, upD_ne h1]
  have d0 : ∀ k, k ≠ s → D k 0 = d k 0 := fun k h1 => by
    by_cases c : k = t
    · rw [c, dt, up_ne (by omega)]
    · rw [dk k h1 c]
  have ds0 : D s 0 = 18 := by rw [ds, up_ne (by omega)]; rfl
  have ds4 : D s 4 = (t : Int) := by rw [ds, up_eq]
  have dt4 : D t 4 = (s : Int) := by rw [dt, up_eq]
  refine ⟨hf, p2, by dsimp only; omega, by dsimp only; omega, by rw [u 0 (by omega)]; exact p5, us, fun k hk => ?_, fun i hi => ?_, fun k hk => ?_⟩
  · have hk : k ≤ s + 1 := hk
    by_cases c : k = s + 1
    · rw [c, us]; omega
    · rw [u k (by omega)]; exact p7 k (by omega)
  · have hi : i < o - 1 := hi
    obtain ⟨q1, q2, q3, q4⟩ := p8 i (by omega)
    show stk i < s + 1 ∧ isOp (D (stk i) 0) ∧ upS dep (s + 1) (o - 1) (stk i) = i ∧ ∀ q, stk i < q → q ≤ s + 1 → i < upS dep (s + 1) (o - 1) q
    rw [d0 _ (by omega), u _ (by omega)]
    refine ⟨by omega, q2, q3, fun q z1 z2 => ?_⟩
    by_cases c : q = s + 1
    · rw [c, us]; exact hi
    · rw [u q (by omega)]; exact q4 q z1 (by omega)
  · have hk : k < s + 1 := hk
    show StepOk a b (D k) ∧ (isOp (D k 0) → upS dep (s + 1) (o - 1) (k + 1) = upS dep (s + 1) (o - 1) k + 1 ∧ ((∃ i, i < o - 1 ∧ stk i = k) ∨ ∃ e : Nat, D k 4 = (e : Int) ∧ k < e ∧ e < s + 1 ∧ D e 0 = 18 ∧ D e 4 = (k : Int) ∧ upS dep (s + 1) (o - 1) (e + 1) = upS dep (s + 1) (o - 1) k ∧ ∀ q, k < q → q ≤ e → upS dep (s + 1) (o - 1) k < upS dep (s + 1) (o - 1) q)) ∧ (D k 0 = 18 → upS dep (s + 1) (o - 1) k = upS dep (s + 1) (o - 1) (k + 1) + 1 ∧ ∃ w : Nat, D k 4 = (w : Int) ∧ w < k ∧ isOp (D w 0) ∧ D w 4 = (k : Int) ∧ upS dep (s + 1) (o - 1) (k + 1) = upS dep (s + 1) (o - 1) w) ∧ (¬ isOp (D k 0) → D k 0 ≠ 18 → upS dep (s + 1) (o - 1) (k + 1) = upS dep (s + 1) (o - 1) k)
    by_cases c : k = s
    · rw [c, ds0, us, u s (by omega), p6]
      refine ⟨?_, fun z => absurd z isOp_18, fun _ => ⟨by omega, t, ds4, t1, by rw [d0 t (by omega)]; exact t2, dt4, by rw [u t (by omega)]; exact t3.symm⟩, fun _ z => absurd rfl z⟩
      unfold StepOk
      rw [ds0]
      omega
    · have hk2 : k < s := by omega
      obtain ⟨q1, q2, q3, q4⟩ := p9 k hk2
      rw [d0 k c, u k (by omega), u (k + 1) (by omega)]
      refine ⟨?_, fun z => ?_, fun z => ?_, q4⟩
      · by_cases ct : k = t
        · rw [ct, dt]
          rw [ct] at q1
          unfold StepOk at q1 ⊢
          rw [up_ne (by omega), up_ne (by omega), up_ne (by omega), up_ne (by omega)]
          exact q1
        · rw [dk k c ct]; exact q1
      · obtain ⟨w1, w2⟩ := q2 z
        refine ⟨w1, ?_⟩
        by_cases ct : k = t
        · refine Or.inr ⟨s, by rw [ct]; exact dt4, hk2, by omega, ds0, by rw [ct]; exact ds4, by rw [us, ct]; exact t3.symm, fun q z1 z2 => ?_⟩
          rw [u q z2, ct, t3]
          exact t4 q (by omega) z2
        · rcases w2 with ⟨i, w2, w3⟩ | ⟨e, e1, e2, e3, e4, e5, e6, e7⟩
          · refine Or.inl ⟨i, ?_, w3⟩
            have : i ≠ o - 1 := fun y => ct (by rw [← w3, y, ht])
            omega
          · have et : e ≠ t := fun y => by rw [← y, e4] at t2; exact isOp_18 t2
            refine Or.inr ⟨e, by rw [dk k c ct]; exact e1, e2, by omega, by rw [d0 e (by omega)]; exact e4, by rw [dk e (by omega) et]; exact e5, by rw [u (e + 1) (by omega)]; exact e6, fun q z1 z2 => by rw [u q (by omega)]; exact e7 q z1 z2⟩
      · obtain ⟨w1, w, w2, w3, w4, w5, w6⟩ := q3 z
        have kt : k ≠ t := fun y => by rw [← y, z] at t2; exact isOp_18 t2
        have wt : w ≠ t := fun y => by
          have := t4 (k + 1) (by omega) (by omega)
          rw [w6, y, t3] at this
          omega
        exact ⟨w1, w, by rw [dk k c kt]; exact w2, w3, by rw [d0 w (by omega)]; exact w4, by rw [dk w (by omega) wt]; exact w5, by rw [u w (by omega)]; exact w6⟩
