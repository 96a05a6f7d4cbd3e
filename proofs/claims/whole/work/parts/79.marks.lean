/-! marks -/
def ChA (S SL : Nat → Nat → Nat → Prop) (σ σ' : AM) : Prop := (∀ t i j, ¬ S t i j → σ'.1 t i j = σ.1 t i j) ∧ (∀ t i j, ¬ SL t i j → σ'.2.1 t i j = σ.2.1 t i j) ∧ σ'.2.2 = σ.2.2
theorem ChA.rf {S SL : Nat → Nat → Nat → Prop} {σ : AM} : ChA S SL σ σ := ⟨fun _ _ _ _ => rfl, fun _ _ _ _ => rfl, rfl⟩
theorem ChA.tr {S SL : Nat → Nat → Nat → Prop} {σ σ' σ'' : AM} (h : ChA S SL σ σ') (h2 : ChA S SL σ' σ'') : ChA S SL σ σ'' := ⟨fun t i j q => (h2.1 t i j q).trans (h.1 t i j q), fun t i j q => (h2.2.1 t i j q).trans (h.2.1 t i j q), h2.2.2.trans h.2.2⟩
theorem ChA.mo {S SL S' SL' : Nat → Nat → Nat → Prop} {σ σ' : AM} (h : ChA S SL σ σ') (a : ∀ t i j, S t i j → S' t i j) (b : ∀ t i j, SL t i j → SL' t i j) : ChA S' SL' σ σ' := ⟨fun t i j q => h.1 t i j (fun z => q (a _ _ _ z)), fun t i j q => h.2.1 t i j (fun z => q (b _ _ _ z)), h.2.2⟩
theorem ChA.wI {S SL : Nat → Nat → Nat → Prop} {σ : AM} {t i j : Nat} {x : Int32} (h : S t i j) : ChA S SL σ (wI σ t i j x) := ⟨fun t' i' j' q => by rw [wI1, if_neg (fun z => q (by rw [z.1, z.2.1, z.2.2]; exact h))], fun _ _ _ _ => rfl, rfl⟩
theorem Ch.cha {S SL : Nat → Nat → Nat → Prop} {σ σ' : AM} (h : Ch S σ σ') : ChA S SL σ σ' := ⟨h.1, fun _ _ _ _ => by rw [h.2], by rw [h.2]⟩
theorem ChA.cpI {S SL : Nat → Nat → Nat → Prop} {σ : AM} {t0 i0 t1 i1 sp dp n : Nat} (h : ∀ j, dp ≤ j → j < dp + n → S t1 i1 j) : ChA S SL σ (cpI σ t0 i0 t1 i1 sp dp n) := ⟨fun t i j q => by rw [cpI1, if_neg (fun z => q (by rw [z.1, z.2.1]; exact h j z.2.2.1 z.2.2.2))], fun _ _ _ _ => rfl, rfl⟩
theorem ChA.cpL {S SL : Nat → Nat → Nat → Prop} {σ : AM} {t0 i0 t1 i1 sp dp n : Nat} (h : ∀ j, dp ≤ j → j < dp + n → SL t1 i1 j) : ChA S SL σ (cpL σ t0 i0 t1 i1 sp dp n) := ⟨fun _ _ _ _ => rfl, fun t i j q => by rw [cpL2, if_neg (fun z => q (by rw [z.1, z.2.1]; exact h j z.2.2.1 z.2.2.2))], rfl⟩
theorem cpL_0 (σ : AM) (t0 i0 t1 i1 sp dp : Nat) : cpL σ t0 i0 t1 i1 sp dp 0 = σ := by
  unfold cpL
  congr 1
  congr 1
  funext t i j
  rw [if_neg (by omega)]
theorem cpL_s (σ : AM) (t0 i0 t1 i1 sp dp n : Nat) : wL (cpL σ t0 i0 t1 i1 sp dp n) t1 i1 (dp + n) (σ.2.1 t0 i0 (sp + n)) = cpL σ t0 i0 t1 i1 sp dp (n + 1) := by
  unfold wL cpL
  congr 1
  congr 1
  funext t i j
  show (if t = t1 ∧ i = i1 ∧ j = dp + n then σ.2.1 t0 i0 (sp + n) else if t = t1 ∧ i = i1 ∧ dp ≤ j ∧ j < dp + n then σ.2.1 t0 i0 (sp + (j - dp)) else σ.2.1 t i j) = _
  by_cases e : t = t1 ∧ i = i1 ∧ j = dp + n
  · rw [if_pos e, if_pos ⟨e.1, e.2.1, by omega, by omega⟩, e.2.2, show sp + (dp + n - dp) = sp + n by omega]
  · rw [if_neg e]
    by_cases e2 : t = t1 ∧ i = i1 ∧ dp ≤ j ∧ j < dp + n
    · rw [if_pos e2, if_pos ⟨e2.1, e2.2.1, e2.2.2.1, by omega⟩]
    · rw [if_neg e2, if_neg (by omega)]
theorem s_daysCopy {CALL : CT} (hC : RuleAll CALL) {r : Nat} {σ : AM} {K : AV → AM → Prop} {p a s : Nat} (hne : p ≠ a) (h6 : σ.1 37 p 6 = Int32.ofInt (s : Int)) (hs : s ≤ 60) (h8 : σ.1 37 p 8 = Int32.ofInt 0 ∨ σ.1 37 p 8 = Int32.ofInt 1) (h : ∀ σ' : AM, (∀ t j, 38 ≤ t → t ≤ 43 → j < s → σ'.1 t a j = σ.1 t p j) → σ'.1 37 a 6 = σ.1 37 p 6 → σ'.1 37 a 8 = σ.1 37 p 8 → Ch (fun t i _ => 37 ≤ t ∧ t ≤ 43 ∧ i = a) σ σ' → K unset σ') : CALL (r + 1) n_Days_copy [.inr (.inr (37, a)), .inr (.inr (37, p))] σ K := by
  refine r_Days_copy hC (fun J hJ => ?_)
  refine hJ _ _ _ _ ?_
  conv => whnf
  have lp : ∀ x : Int32, x = Int32.ofInt (s : Int) → (¬ (Int32.ofInt 0) < 0 ∧ ¬ (Int32.ofInt 0) < 0 ∧ ¬ x < 0 ∧ (Int32.ofInt 0).toNatClampNeg + x.toNatClampNeg ≤ 60 ∧ (Int32.ofInt 0).toNatClampNeg + x.toNatClampNeg ≤ 60) := by
    intro x hx
    subst hx
    have e : (Int32.ofInt (s : Int)).toNatClampNeg = s := by rw [oi_nat (by omega) (by omega), Int.toNat_natCast]
    refine ⟨by decide, by decide, fun q => ?_, ?_, ?_⟩
    · rw [oi_lt0 (by omega) (by omega)] at q; omega
    · rw [e]; show 0 + s ≤ 60; omega
    · rw [e]; show 0 + s ≤ 60; omega
  rw [h6]
  refine ⟨lp _ rfl, ?_⟩
  conv => whnf
  rw [cpI1, if_neg (by omega), h6]
  refine ⟨lp _ rfl, ?_⟩
  conv => whnf
  rw [cpI1, if_neg (by omega), cpI1, if_neg (by omega), h6]
  refine ⟨lp _ rfl, ?_⟩
  conv => whnf
  rw [cpI1, if_neg (by omega), cpI1, if_neg (by omega), cpI1, if_neg (by omega), h6]
  refine ⟨lp _ rfl, ?_⟩
  conv => whnf
  rw [cpI1, if_neg (by omega), cpI1, if_neg (by omega), cpI1, if_neg (by omega), cpI1, if_neg (by omega), h6]
  refine ⟨lp _ rfl, ?_⟩
  conv => whnf
  rw [cpI1, if_neg (by omega), cpI1, if_neg (by omega), cpI1, if_neg (by omega), cpI1, if_neg (by omega), cpI1, if_neg (by omega), h6]
  refine ⟨lp _ rfl, ?_⟩
  conv => whnf
  have e : (Int32.ofInt (s : Int)).toNatClampNeg = s := by rw [oi_nat (by omega) (by omega), Int.toNat_natCast]
  rw [e, show (Int32.ofInt 0).toNatClampNeg = 0 from rfl]
  generalize hτ : cpI (cpI (cpI (cpI (cpI (cpI σ 38 p 38 a 0 0 s) 39 p 39 a 0 0 s) 40 p 40 a 0 0 s) 41 p 41 a 0 0 s) 42 p 42 a 0 0 s) 43 p 43 a 0 0 s = τ
  have tc : Ch (fun t i _ => 37 ≤ t ∧ t ≤ 43 ∧ i = a) σ τ := by
    rw [← hτ]
    exact (((((Ch.cpI (fun _ => ⟨by omega, by omega, rfl⟩)).tr (Ch.cpI (fun _ => ⟨by omega, by omega, rfl⟩))).tr (Ch.cpI (fun _ => ⟨by omega, by omega, rfl⟩))).tr (Ch.cpI (fun _ => ⟨by omega, by omega, rfl⟩))).tr (Ch.cpI (fun _ => ⟨by omega, by omega, rfl⟩))).tr (Ch.cpI (fun _ => ⟨by omega, by omega, rfl⟩))
  have tv : ∀ t j, 38 ≤ t → t ≤ 43 → j < s → τ.1 t a j = σ.1 t p j := by
    intro t j t1 t2 hj
    rw [← hτ]
    simp only [cpI1]
    have : t = 38 ∨ t = 39 ∨ t = 40 ∨ t = 41 ∨ t = 42 ∨ t = 43 := by omega
    rcases this with rfl | rfl | rfl | rfl | rfl | rfl <;> simp [hj, hne]
  have t37 : ∀ j, τ.1 37 p j = σ.1 37 p j := fun j => tc.1 37 p j (by omega)
  have eW : ∀ (τ' : AM) (x : Int32) (j' j : Nat), (wI τ' 37 a j' x).1 37 p j = τ'.1 37 p j := fun τ' x j' j => by rw [wI1, if_neg (by omega)]
  simp only [eW, t37]
  refine ⟨h8, ?_⟩
  refine h _ (fun t j t1 t2 hj => ?_) ?_ ?_ (((tc.tr (Ch.wI ⟨by omega, by omega, rfl⟩)).tr (Ch.wI ⟨by omega, by omega, rfl⟩)).tr (Ch.wI ⟨by omega, by omega, rfl⟩))
  · rw [wI1, if_neg (by omega), wI1, if_neg (by omega), wI1, if_neg (by omega)]
    exact tv t j t1 t2 hj
  · rw [wI1, if_neg (by omega), wI1, if_neg (by omega), wI_16]
  · rw [wI_16]
theorem DayR.bd {σ : AM} {p b : Nat} {h : Nat → Int} (hd : DayR σ p b h) : ∃ s : Nat, s ≤ 60 ∧ σ.1 37 p 6 = Int32.ofInt (s : Int) ∧ (σ.1 37 p 8 = Int32.ofInt 0 ∨ σ.1 37 p 8 = Int32.ofInt 1) ∧ h 10 ≤ (s : Int) := by
  rcases hd with ⟨d1, d2, d3⟩ | ⟨s, d, dep, d1, d2, d3, d4, d5⟩
  · exact ⟨0, by omega, d3, Or.inl d2, by omega⟩
  · exact ⟨s, d4.1, d3, Or.inr d2, by omega⟩
theorem s_m_copies {CALL : CT} (hC : RuleAll CALL) {r : Nat} {σ : AM} {K : AV → AM → Prop} {f g : Nat} (hf : f < 8) (hg : g < 6) (hne : f ≠ g) (hf2 : f < 6) (h : K unset (cpL (cpI σ 47 0 47 0 (465 * f) (465 * g) 465) 48 0 48 0 (13 * f) (13 * g) 13)) : CALL (r + 1) n_m_copies [.inr (.inr (46, 0)), .inl (Int32.ofInt f), .inl (Int32.ofInt g)] σ K := by
  refine r_m_copies hC (fun J hJ => ?_)
  refine hJ _ _ _ _ ?_
  conv => whnf
  have loop2 : ∀ (k i : Nat) (τ : AM), i + k = 13 → τ = cpI σ 47 0 47 0 (465 * f) (465 * g) 465 → J 41 [.inr (.inr (46, 0)), .inl (Int32.ofInt (f : Int)), .inl (Int32.ofInt (g : Int)), .inl (Int32.ofInt (i : Int))] [] (cpL τ 48 0 48 0 (13 * f) (13 * g) i) := by
    intro k
    induction k with
    | zero =>
      intro i τ hi ht
      have : i = 13 := by omega
      subst this
      refine hJ _ _ _ _ ?_
      conv => whnf
      refine ⟨fun c => ?_, fun c => ?_⟩ <;> (try simp (disch := omega) only [oi_le, oi_lt, oi_eq, oi_lt0, oi_le0, oi_0lt, oi_0le, oi_eq0, oi_eq1, bI_eq0, bI_ne0, bI_eq1, decide_eq_true_eq, decide_eq_false_iff_not, lc_lt, lc_gt, lc_eq, lc_ge, lc_le, ol_lt, ol_eq, ne_eq, Int.not_lt, Int.not_le, Bool.not_eq_true, Bool.not_eq_false, Decidable.not_not, not_true_eq_false, not_false_eq_true, Bool.true_eq_false, Bool.false_eq_true] at c) <;> (first | (exfalso; omega) | ((with_reducible refine hJ _ _ _ _ ?_); conv => whnf) | (conv => whnf))
      rw [ht]
      exact h
    | succ k ih =>
      intro i τ hi ht
      have nx := ih (i + 1) τ (by omega) ht
      rw [← cpL_s] at nx
      refine hJ _ _ _ _ ?_
      conv => whnf
      refine ⟨fun c => ?_, fun c => ?_⟩ <;> (try simp (disch := omega) only [oi_le, oi_lt, oi_eq, oi_lt0, oi_le0, oi_0lt, oi_0le, oi_eq0, oi_eq1, bI_eq0, bI_ne0, bI_eq1, decide_eq_true_eq, decide_eq_false_iff_not, lc_lt, lc_gt, lc_eq, lc_ge, lc_le, ol_lt, ol_eq, ne_eq, Int.not_lt, Int.not_le, Bool.not_eq_true, Bool.not_eq_false, Decidable.not_not, not_true_eq_false, not_false_eq_true, Bool.true_eq_false, Bool.false_eq_true] at c) <;> (first | (exfalso; omega) | ((with_reducible refine hJ _ _ _ _ ?_); conv => whnf) | (conv => whnf))
      rw [oi_mul, oi_mul, oi_add, oi_add]
      refine ⟨(oi_in (by omega) (by omega)).mpr ⟨by omega, by omega⟩, ?_⟩
      conv => whnf
      refine ⟨(oi_in (by omega) (by omega)).mpr ⟨by omega, by omega⟩, ?_⟩
      conv => whnf
      rw [oi_nat (by omega) (by omega), oi_nat (by omega) (by omega), show (13 * (g : Int) + (i : Int)).toNat = 13 * g + i by omega, show (13 * (f : Int) + (i : Int)).toNat = 13 * f + i by omega, cpL2, if_neg (by omega), oi_succ]
      exact nx
  have loop : ∀ (k i : Nat), i + k = 465 → J 2 [.inr (.inr (46, 0)), .inl (Int32.ofInt (f : Int)), .inl (Int32.ofInt (g : Int)), .inl (Int32.ofInt (i : Int))] [] (cpI σ 47 0 47 0 (465 * f) (465 * g) i) := by
    intro k
    induction k with
    | zero =>
      intro i hi
      have : i = 465 := by omega
      subst this
      refine hJ _ _ _ _ ?_
      conv => whnf
      refine ⟨fun c => ?_, fun c => ?_⟩ <;> (try simp (disch := omega) only [oi_le, oi_lt, oi_eq, oi_lt0, oi_le0, oi_0lt, oi_0le, oi_eq0, oi_eq1, bI_eq0, bI_ne0, bI_eq1, decide_eq_true_eq, decide_eq_false_iff_not, lc_lt, lc_gt, lc_eq, lc_ge, lc_le, ol_lt, ol_eq, ne_eq, Int.not_lt, Int.not_le, Bool.not_eq_true, Bool.not_eq_false, Decidable.not_not, not_true_eq_false, not_false_eq_true, Bool.true_eq_false, Bool.false_eq_true] at c) <;> (first | (exfalso; omega) | ((with_reducible refine hJ _ _ _ _ ?_); conv => whnf) | (conv => whnf))
      have := loop2 13 0 _ (by omega) rfl
      rw [cpL_0] at this
      exact this
    | succ k ih =>
      intro i hi
      have nx := ih (i + 1) (by omega)
      rw [← cpI_s] at nx
      refine hJ _ _ _ _ ?_
      conv => whnf
      refine ⟨fun c => ?_, fun c => ?_⟩ <;> (try simp (disch := omega) only [oi_le, oi_lt, oi_eq, oi_lt0, oi_le0, oi_0lt, oi_0le, oi_eq0, oi_eq1, bI_eq0, bI_ne0, bI_eq1, decide_eq_true_eq, decide_eq_false_iff_not, lc_lt, lc_gt, lc_eq, lc_ge, lc_le, ol_lt, ol_eq, ne_eq, Int.not_lt, Int.not_le, Bool.not_eq_true, Bool.not_eq_false, Decidable.not_not, not_true_eq_false, not_false_eq_true, Bool.true_eq_false, Bool.false_eq_true] at c) <;> (first | (exfalso; omega) | ((with_reducible refine hJ _ _ _ _ ?_); conv => whnf) | (conv => whnf))
      rw [oi_mul, oi_mul, oi_add, oi_add]
      refine ⟨(oi_in (by omega) (by omega)).mpr ⟨by omega, by omega⟩, ?_⟩
      conv => whnf
      refine ⟨(oi_in (by omega) (by omega)).mpr ⟨by omega, by omega⟩, ?_⟩
      conv => whnf
      rw [oi_nat (by omega) (by omega), oi_nat (by omega) (by omega), show (465 * (g : Int) + (i : Int)).toNat = 465 * g + i by omega, show (465 * (f : Int) + (i : Int)).toNat = 465 * f + i by omega, cpI1, if_neg (by omega), oi_succ]
      exact nx
  have st := loop 465 0 (by omega)
  rw [cpI_0] at st
  exact st
theorem op_mark {CALL : CT} (hC : RuleAll CALL) {r : Nat} {σ : AM} {K : AV → AV → AM → Prop} (hR : Rel σ) (h : ∀ v σ2, Rel σ2 → K v v σ2) : CALL (r + 20) n_x_mark [.inr (.inr (1, 0))] σ (fun v σ1 => CALL (r + 20) n_m_mark [.inr (.inr (46, 0))] σ1 (fun v' σ2 => K v v' σ2)) := by
  obtain ⟨⟨n, p, h0, ha⟩, hb, hst⟩ := id hR
  have hn := ha.nh
  obtain ⟨n45, hnn, hr, hm, ⟨hw, hw67⟩, h59⟩ := id hn
  have b := hw.1
  have hsy : SymE h0 := ha.2.2.2.2.2.2.2.2.2.2.1
  obtain ⟨q0, q1, q2, q3, q4, q5, q6, q7, q8, q9, qa, qt, qm, qe⟩ := id hr
  obtain ⟨hn45, hp2, r1, r2, r3, r4, hh⟩ := id ha
  obtain ⟨k, k3, m1, m2, mk⟩ := hb.1
  obtain ⟨s, ds, d6, d8, d10⟩ := hh.2.2.2.2.2.2.bd
  refine r_x_mark hC (fun J hJ => ?_)
  refine hJ _ _ _ _ ?_
  conv => whnf
  rw [m1]
  refine ⟨fun c => ?_, fun c => ?_⟩ <;> (try simp (disch := omega) only [oi_le, oi_lt, oi_eq, oi_lt0, oi_le0, oi_0lt, oi_0le, oi_eq0, oi_eq1, bI_eq0, bI_ne0, bI_eq1, decide_eq_true_eq, decide_eq_false_iff_not, lc_lt, lc_gt, lc_eq, lc_ge, lc_le, ol_lt, ol_eq, ne_eq, Int.not_lt, Int.not_le, Bool.not_eq_true, Bool.not_eq_false, Decidable.not_not, not_true_eq_false, not_false_eq_true, Bool.true_eq_false, Bool.false_eq_true] at c) <;> (first | (exfalso; omega) | ((with_reducible refine hJ _ _ _ _ ?_); conv => whnf) | (conv => whnf))
  · rw [m1]
    refine ⟨(oi_in (by omega) (by omega)).mpr ⟨by omega, by omega⟩, ?_⟩
    conv => whnf
    rw [oi_nat (by omega) (by omega), Int.toNat_natCast]
    rw [hnn]
    refine ⟨by omega, ?_⟩
    conv => whnf
    refine s_houseCopy hC (by omega) ?_
    conv => whnf
    have f1 := houC_fr (σ := σ) (n := n) (a := 6 + k)
    have f2 : ∀ t j, inHI t j → (houC σ n (6 + k)).1 t (6 + k) j = σ.1 t n j := fun t j q => houC_I (by omega) q
    have f3 : ∀ t j, inHL t j → (houC σ n (6 + k)).2.1 t (6 + k) j = σ.2.1 t n j := fun t j q => houC_L (by omega) q
    have f4 : (houC σ n (6 + k)).2.2 = σ.2.2 := houC_R
    generalize houC σ n (6 + k) = τ1 at f1 f2 f3 f4 ⊢
    have g15 : τ1.1 1 0 15 = Int32.ofInt (k : Int) := by rw [(f1 1 0 (by unfold HS; omega)).1, m1]
    have g37 : ∀ i j, τ1.1 37 i j = σ.1 37 i j := fun i j => by rw [(f1 37 i (by unfold HS; omega)).1]
    rw [g15]
    refine ⟨(oi_in (by omega) (by omega)).mpr ⟨by omega, by omega⟩, ?_⟩
    conv => whnf
    rw [oi_nat (by omega) (by omega), Int.toNat_natCast, f4, r3]
    refine ⟨by omega, ?_⟩
    conv => whnf
    refine s_daysCopy hC (s := s) (by omega) (by rw [g37, d6]) ds (by rw [g37]; exact d8) (fun τ2 e1 e2 e3 e4 => ?_)
    conv => whnf
    rw [e4.1 1 0 15 (by omega), g15, oi_add, wI_16]
    refine s_give hC ?_
    conv => whnf
    generalize hτ3 : wI (wI τ2 1 0 15 (Int32.ofInt ((k : Int) + 1))) 1 0 16 (Int32.ofInt 0) = τ3
    have a1 : ∀ t i j, ¬ ((22 ≤ t ∧ t ≤ 36 ∧ i = 6 + k) ∨ (37 ≤ t ∧ t ≤ 43 ∧ i = 2 + k) ∨ (t = 1 ∧ i = 0 ∧ (j = 15 ∨ j = 16))) → τ3.1 t i j = σ.1 t i j := by
      intro t i j q
      rw [← hτ3, wI1, if_neg (by omega), wI1, if_neg (by omega), e4.1 t i j (by omega), (f1 t i (by unfold HS; omega)).1]
    have a2 : ∀ t i j, ¬ (22 ≤ t ∧ t ≤ 36 ∧ i = 6 + k) → τ3.2.1 t i j = σ.2.1 t i j := by
      intro t i j q
      rw [← hτ3]
      show τ2.2.1 t i j = _
      rw [e4.2, (f1 t i q).2.1]
    have a3 : τ3.2.2 = σ.2.2 := by
      rw [← hτ3]
      show τ2.2.2 = _
      rw [e4.2, f4]
    have a4 : ∀ t j, inHI t j → τ3.1 t (6 + k) j = σ.1 t n j := by
      intro t j q
      have q2 := q
      unfold inHI at q2
      rw [← hτ3, wI1, if_neg (by omega), wI1, if_neg (by omega), e4.1 t (6 + k) j (by omega), f2 t j q]
    have a5 : ∀ t j, inHL t j → τ3.2.1 t (6 + k) j = σ.2.1 t n j := by
      intro t j q
      rw [← hτ3]
      show τ2.2.1 t (6 + k) j = _
      rw [e4.2, f3 t j q]
    have a6 : τ3.1 37 (2 + k) 6 = σ.1 37 p 6 := by rw [← hτ3, wI1, if_neg (by omega), wI1, if_neg (by omega), e2, g37]
    have a7 : τ3.1 37 (2 + k) 8 = σ.1 37 p 8 := by rw [← hτ3, wI1, if_neg (by omega), wI1, if_neg (by omega), e3, g37]
    have a8 : ∀ t j, 38 ≤ t → t ≤ 43 → j < s → τ3.1 t (2 + k) j = σ.1 t p j := by
      intro t j t1 t2 hj
      rw [← hτ3, wI1, if_neg (by omega), wI1, if_neg (by omega), e1 t j t1 t2 hj, (f1 t p (by unfold HS; omega)).1]
    have a15 : τ3.1 1 0 15 = Int32.ofInt ((k : Int) + 1) := by rw [← hτ3, wI1, if_neg (by omega), wI_16]
    have a16 : τ3.1 1 0 16 = Int32.ofInt 0 := by rw [← hτ3, wI_16]
    refine r_m_mark hC (fun J hJ => ?_)
    refine hJ _ _ _ _ ?_
    conv => whnf
    rw [a1 46 0 46 (by omega), m2]
    refine ⟨fun c2 => ?_, fun c2 => ?_⟩ <;> (try simp (disch := omega) only [oi_le, oi_lt, oi_eq, oi_lt0, oi_le0, oi_0lt, oi_0le, oi_eq0, oi_eq1, bI_eq0, bI_ne0, bI_eq1, decide_eq_true_eq, decide_eq_false_iff_not, lc_lt, lc_gt, lc_eq, lc_ge, lc_le, ol_lt, ol_eq, ne_eq, Int.not_lt, Int.not_le, Bool.not_eq_true, Bool.not_eq_false, Decidable.not_not, not_true_eq_false, not_false_eq_true, Bool.true_eq_false, Bool.false_eq_true] at c2) <;> (first | (exfalso; omega) | ((with_reducible refine hJ _ _ _ _ ?_); conv => whnf) | (conv => whnf))
    rw [a1 46 0 46 (by omega), m2, oi_succ, wI_16]
    refine s_m_copies hC (f := 0) (g := k + 1) (by omega) (by omega) (by omega) (by omega) ?_
    conv => whnf
    generalize hτ4 : cpL (cpI (wI τ3 46 0 46 (Int32.ofInt ((k + 1 : Nat) : Int))) 47 0 47 0 (465 * 0) (465 * (k + 1)) 465) 48 0 48 0 (13 * 0) (13 * (k + 1)) 13 = τ4
    have b1 : ∀ t i j, ¬ ((t = 46 ∧ i = 0 ∧ j = 46) ∨ (t = 47 ∧ i = 0 ∧ 465 * (k + 1) ≤ j ∧ j < 465 * (k + 1) + 465)) → τ4.1 t i j = τ3.1 t i j := by
      intro t i j q
      rw [← hτ4, cpL1, cpI1, if_neg (by omega), wI1, if_neg (by omega)]
    have b2 : ∀ t i j, ¬ (t = 48 ∧ i = 0 ∧ 13 * (k + 1) ≤ j ∧ j < 13 * (k + 1) + 13) → τ4.2.1 t i j = τ3.2.1 t i j := by
      intro t i j q
      rw [← hτ4, cpL2, if_neg (by omega)]
      rfl
    have b3 : τ4.2.2 = τ3.2.2 := by rw [← hτ4]; rfl
    have b46 : τ4.1 46 0 46 = Int32.ofInt ((k + 1 : Nat) : Int) := by rw [← hτ4, cpL1, cpI1, if_neg (by omega), wI_16]
    have b47 : ∀ j, j < 457 → τ4.1 47 0 (465 * (k + 1) + j) = τ3.1 47 0 (0 + j) := by
      intro j hj
      rw [← hτ4, cpL1, cpI1, if_pos (by omega), wI1, if_neg (by omega), show 465 * 0 + (465 * (k + 1) + j - 465 * (k + 1)) = 0 + j by omega]
    have b48 : ∀ j, j < 13 → τ4.2.1 48 0 (13 * (k + 1) + j) = τ3.2.1 48 0 (0 + j) := by
      intro j hj
      rw [← hτ4, cpL2, if_pos (by omega), show 13 * 0 + (13 * (k + 1) + j - 13 * (k + 1)) = 0 + j by omega]
      rfl
    rw [b46, show Int32.ofInt ((k : Int) + 1) = Int32.ofInt ((k + 1 : Nat) : Int) from rfl]
    refine s_m_gives hC ?_
    conv => whnf
    have z1 : ∀ t i j, ¬ ((22 ≤ t ∧ t ≤ 36 ∧ i = 6 + k) ∨ (37 ≤ t ∧ t ≤ 43 ∧ i = 2 + k) ∨ (t = 1 ∧ i = 0 ∧ (j = 15 ∨ j = 16)) ∨ (t = 46 ∧ i = 0 ∧ (j = 46 ∨ j = 2)) ∨ (t = 47 ∧ i = 0 ∧ 465 * (k + 1) ≤ j ∧ j < 465 * (k + 1) + 465)) → (wI τ4 46 0 2 (Int32.ofInt 0)).1 t i j = σ.1 t i j := by
      intro t i j q
      rw [wI1, if_neg (by omega), b1 t i j (by omega), a1 t i j (by omega)]
    have z2 : ∀ t i j, ¬ ((22 ≤ t ∧ t ≤ 36 ∧ i = 6 + k) ∨ (t = 48 ∧ i = 0 ∧ 13 * (k + 1) ≤ j ∧ j < 13 * (k + 1) + 13)) → (wI τ4 46 0 2 (Int32.ofInt 0)).2.1 t i j = σ.2.1 t i j := by
      intro t i j q
      show τ4.2.1 t i j = _
      rw [b2 t i j (by omega), a2 t i j (by omega)]
    have z3 : (wI τ4 46 0 2 (Int32.ofInt 0)).2.2 = σ.2.2 := by
      show τ4.2.2 = _
      rw [b3, a3]
    refine h _ _ ⟨⟨n, p, h0, hn45, hp2, by rw [z3, r1], by rw [z3, r2], by rw [z3, r3], by rw [z3, r4], ?_⟩, ⟨⟨k + 1, by omega, ?_, ?_, fun i hi => ?_⟩, ?_, ?_, ?_, ?_, ?_, ?_⟩, ?_⟩
    · refine hh.cg (fun t j hin => z1 _ _ _ ?_) (fun t j hin => z2 _ _ _ ?_) (fun j hj => z1 _ _ _ ?_) (fun j hj => z2 _ _ _ ?_) (z1 _ _ _ ?_) (z1 _ _ _ ?_) (fun k _ t a b => z1 _ _ _ ?_)
      · unfold inHI at hin; omega
      · unfold inHL at hin; omega
      all_goals omega
    · rw [wI1, if_neg (by omega), b1 1 0 15 (by omega), a15]
      rfl
    · rw [wI1, if_neg (by omega), b46]
    · by_cases hik : i = k
      · subst hik
        refine ⟨h0, hh.cg (fun t j hin => ?_) (fun t j hin => ?_) (fun j hj => ?_) (fun j hj => ?_) ?_ ?_ (fun k hk t a b => ?_)⟩
        · have q2 := hin
          unfold inHI at q2
          rw [wI1, if_neg (by omega), b1 _ _ _ (by omega), a4 t j hin]
        · have q2 := hin
          unfold inHL at q2
          show τ4.2.1 _ _ _ = _
          rw [b2 _ _ _ (by omega), a5 t j hin]
        · rw [wI1, if_neg (by omega), b47 j hj, a1 _ _ _ (by omega)]
        · show τ4.2.1 _ _ _ = _
          rw [b48 j hj, a2 _ _ _ (by omega)]
        · rw [wI1, if_neg (by omega), b1 _ _ _ (by omega), a7]
        · rw [wI1, if_neg (by omega), b1 _ _ _ (by omega), a6]
        · rw [wI1, if_neg (by omega), b1 _ _ _ (by omega), a8 t k a b (by omega)]
      · obtain ⟨hi', hhi⟩ := mk i (by omega)
        refine ⟨hi', hhi.cg (fun t j hin => z1 _ _ _ ?_) (fun t j hin => z2 _ _ _ ?_) (fun j hj => z1 _ _ _ ?_) (fun j hj => z2 _ _ _ ?_) (z1 _ _ _ ?_) (z1 _ _ _ ?_) (fun k _ t a b => z1 _ _ _ ?_)⟩
        · unfold inHI at hin; omega
        · unfold inHL at hin; omega
        all_goals omega
    · obtain ⟨M, S, ht⟩ := hb.2.1.tm
      exact TrM.tr (ht.w (fun t i j q => z1 _ _ _ (by omega)) (fun t j t4 hj => by rw [z2 _ _ _ (by omega), z2 _ _ _ (by omega)]; exact ht.old t4 hj))
    · exact hb.2.2.1.c2 (z1 _ _ _ (by omega)) (z1 _ _ _ (by omega)) (fun j => z1 _ _ _ (by omega)) (fun j => z1 _ _ _ (by omega))
    · exact hb.2.2.2.1.c2 (z1 _ _ _ (by omega)) (z1 _ _ _ (by omega)) (z1 _ _ _ (by omega)) (z1 _ _ _ (by omega))
    · exact hb.2.2.2.2.1.c2 (fun j _ => z1 _ _ _ (by omega)) (fun j => z1 _ _ _ (by omega)) (z1 _ _ _ (by omega))
    · exact hb.2.2.2.2.2.1.c2 (z2 _ _ _ (by omega)) (z2 _ _ _ (by omega)) (z2 _ _ _ (by omega)) (z2 _ _ _ (by omega))
    · exact hb.2.2.2.2.2.2.c2 (fun j => z2 _ _ _ (by omega))
    · rw [wI1, if_neg (by omega), b1 1 0 16 (by omega), a16, wI_16]
  · refine s_none hC ?_
    conv => whnf
    refine r_m_mark hC (fun J hJ => ?_)
    refine hJ _ _ _ _ ?_
    conv => whnf
    rw [wI1, if_neg (by omega), m2]
    refine ⟨fun c2 => ?_, fun c2 => ?_⟩ <;> (try simp (disch := omega) only [oi_le, oi_lt, oi_eq, oi_lt0, oi_le0, oi_0lt, oi_0le, oi_eq0, oi_eq1, bI_eq0, bI_ne0, bI_eq1, decide_eq_true_eq, decide_eq_false_iff_not, lc_lt, lc_gt, lc_eq, lc_ge, lc_le, ol_lt, ol_eq, ne_eq, Int.not_lt, Int.not_le, Bool.not_eq_true, Bool.not_eq_false, Decidable.not_not, not_true_eq_false, not_false_eq_true, Bool.true_eq_false, Bool.false_eq_true] at c2) <;> (first | (exfalso; omega) | ((with_reducible refine hJ _ _ _ _ ?_); conv => whnf) | (conv => whnf))
    refine s_m_refuse hC ?_
    conv => whnf
    exact h _ _ (hR.sc done2.1 done2.2)
theorem op_undo {CALL : CT} (hC : RuleAll CALL) {r : Nat} {σ : AM} {K : AV → AV → AM → Prop} (hR : Rel σ) (h : ∀ v σ2, Rel σ2 → K v v σ2) : CALL (r + 20) n_x_undo [.inr (.inr (1, 0))] σ (fun v σ1 => CALL (r + 20) n_m_undo [.inr (.inr (46, 0))] σ1 (fun v' σ2 => K v v' σ2)) := by
  obtain ⟨⟨n, p, h0, ha⟩, hb, hst⟩ := id hR
  have hn := ha.nh
  obtain ⟨n45, hnn, hr, hm, ⟨hw, hw67⟩, h59⟩ := id hn
  have b := hw.1
  have hsy : SymE h0 := ha.2.2.2.2.2.2.2.2.2.2.1
  obtain ⟨q0, q1, q2, q3, q4, q5, q6, q7, q8, q9, qa, qt, qm, qe⟩ := id hr
  obtain ⟨hn45, hp2, r1, r2, r3, r4, hh0⟩ := id ha
  obtain ⟨k, k3, m1, m2, mk⟩ := hb.1
  refine r_x_undo hC (fun J hJ => ?_)
  refine hJ _ _ _ _ ?_
  conv => whnf
  rw [m1]
  refine ⟨fun c => ?_, fun c => ?_⟩ <;> (try simp (disch := omega) only [oi_le, oi_lt, oi_eq, oi_lt0, oi_le0, oi_0lt, oi_0le, oi_eq0, oi_eq1, bI_eq0, bI_ne0, bI_eq1, decide_eq_true_eq, decide_eq_false_iff_not, lc_lt, lc_gt, lc_eq, lc_ge, lc_le, ol_lt, ol_eq, ne_eq, Int.not_lt, Int.not_le, Bool.not_eq_true, Bool.not_eq_false, Decidable.not_not, not_true_eq_false, not_false_eq_true, Bool.true_eq_false, Bool.false_eq_true] at c) <;> (first | (exfalso; omega) | ((with_reducible refine hJ _ _ _ _ ?_); conv => whnf) | (conv => whnf))
  · obtain ⟨k, rfl⟩ : ∃ q, k = q + 1 := ⟨k - 1, by omega⟩
    obtain ⟨hq, hh⟩ := mk k (by omega)
    obtain ⟨s, ds, d6, d8, d10⟩ := hh.2.2.2.2.2.2.bd
    rw [m1, oi_sub, show ((k + 1 : Nat) : Int) - 1 = (k : Int) by omega]
    rw [show (wI σ 1 0 15 (Int32.ofInt (k : Int))).2.2 1 0 11 = n from hnn]
    refine ⟨by omega, ?_⟩
    conv => whnf
    rw [wI_16]
    refine ⟨(oi_in (by omega) (by omega)).mpr ⟨by omega, by omega⟩, ?_⟩
    conv => whnf
    rw [oi_nat (by omega) (by omega), Int.toNat_natCast]
    refine s_houseCopy hC (by omega) ?_
    conv => whnf
    have f1 := houC_fr (σ := wI σ 1 0 15 (Int32.ofInt (k : Int))) (n := 6 + k) (a := n)
    have f2 : ∀ t j, inHI t j → (houC (wI σ 1 0 15 (Int32.ofInt (k : Int))) (6 + k) n).1 t n j = (wI σ 1 0 15 (Int32.ofInt (k : Int))).1 t (6 + k) j := fun t j q => houC_I (by omega) q
    have f3 : ∀ t j, inHL t j → (houC (wI σ 1 0 15 (Int32.ofInt (k : Int))) (6 + k) n).2.1 t n j = σ.2.1 t (6 + k) j := fun t j q => houC_L (by omega) q
    have f4 : (houC (wI σ 1 0 15 (Int32.ofInt (k : Int))) (6 + k) n).2.2 = σ.2.2 := houC_R
    generalize houC (wI σ 1 0 15 (Int32.ofInt (k : Int))) (6 + k) n = τ1 at f1 f2 f3 f4 ⊢
    have g15 : τ1.1 1 0 15 = Int32.ofInt (k : Int) := by rw [(f1 1 0 (by unfold HS; omega)).1, wI_16]
    have g37 : ∀ i j, τ1.1 37 i j = σ.1 37 i j := fun i j => by rw [(f1 37 i (by unfold HS; omega)).1, wI1, if_neg (by omega)]
    rw [f4, r3]
    refine ⟨by omega, ?_⟩
    conv => whnf
    rw [g15]
    refine ⟨(oi_in (by omega) (by omega)).mpr ⟨by omega, by omega⟩, ?_⟩
    conv => whnf
    rw [oi_nat (by omega) (by omega), Int.toNat_natCast]
    refine s_daysCopy hC (s := s) (by omega) (by rw [g37, d6]) ds (by rw [g37]; exact d8) (fun τ2 e1 e2 e3 e4 => ?_)
    conv => whnf
    rw [e4.1 1 0 15 (by omega), g15]
    refine s_give hC ?_
    conv => whnf
    generalize hτ3 : wI τ2 1 0 16 (Int32.ofInt 0) = τ3
    have a1 : ∀ t i j, ¬ ((22 ≤ t ∧ t ≤ 36 ∧ i = n) ∨ (37 ≤ t ∧ t ≤ 43 ∧ i = p) ∨ (t = 1 ∧ i = 0 ∧ (j = 15 ∨ j = 16))) → τ3.1 t i j = σ.1 t i j := by
      intro t i j q
      rw [← hτ3, wI1, if_neg (by omega), e4.1 t i j (by omega), (f1 t i (by unfold HS; omega)).1, wI1, if_neg (by omega)]
    have a2 : ∀ t i j, ¬ (22 ≤ t ∧ t ≤ 36 ∧ i = n) → τ3.2.1 t i j = σ.2.1 t i j := by
      intro t i j q
      rw [← hτ3]
      show τ2.2.1 t i j = _
      rw [e4.2, (f1 t i q).2.1]
      rfl
    have a3 : τ3.2.2 = σ.2.2 := by
      rw [← hτ3]
      show τ2.2.2 = _
      rw [e4.2, f4]
    have a4 : ∀ t j, inHI t j → τ3.1 t n j = σ.1 t (6 + k) j := by
      intro t j q
      have q2 := q
      unfold inHI at q2
      rw [← hτ3, wI1, if_neg (by omega), e4.1 t n j (by omega), f2 t j q, wI1, if_neg (by omega)]
    have a5 : ∀ t j, inHL t j → τ3.2.1 t n j = σ.2.1 t (6 + k) j := by
      intro t j q
      rw [← hτ3]
      show τ2.2.1 t n j = _
      rw [e4.2, f3 t j q]
    have a6 : τ3.1 37 p 6 = σ.1 37 (2 + k) 6 := by rw [← hτ3, wI1, if_neg (by omega), e2, g37]
    have a7 : τ3.1 37 p 8 = σ.1 37 (2 + k) 8 := by rw [← hτ3, wI1, if_neg (by omega), e3, g37]
    have a8 : ∀ t j, 38 ≤ t → t ≤ 43 → j < s → τ3.1 t p j = σ.1 t (2 + k) j := by
      intro t j t1 t2 hj
      rw [← hτ3, wI1, if_neg (by omega), e1 t j t1 t2 hj, (f1 t (2 + k) (by unfold HS; omega)).1, wI1, if_neg (by omega)]
    have a15 : τ3.1 1 0 15 = Int32.ofInt (k : Int) := by rw [← hτ3, wI1, if_neg (by omega), e4.1 1 0 15 (by omega), g15]
    have a16 : τ3.1 1 0 16 = Int32.ofInt 0 := by rw [← hτ3, wI_16]
    refine r_m_undo hC (fun J hJ => ?_)
    refine hJ _ _ _ _ ?_
    conv => whnf
    rw [a1 46 0 46 (by omega), m2]
    refine ⟨fun c2 => ?_, fun c2 => ?_⟩ <;> (try simp (disch := omega) only [oi_le, oi_lt, oi_eq, oi_lt0, oi_le0, oi_0lt, oi_0le, oi_eq0, oi_eq1, bI_eq0, bI_ne0, bI_eq1, decide_eq_true_eq, decide_eq_false_iff_not, lc_lt, lc_gt, lc_eq, lc_ge, lc_le, ol_lt, ol_eq, ne_eq, Int.not_lt, Int.not_le, Bool.not_eq_true, Bool.not_eq_false, Decidable.not_not, not_true_eq_false, not_false_eq_true, Bool.true_eq_false, Bool.false_eq_true] at c2) <;> (first | (exfalso; omega) | ((with_reducible refine hJ _ _ _ _ ?_); conv => whnf) | (conv => whnf))
    rw [a1 46 0 46 (by omega), m2]
    refine s_m_copies hC (f := k + 1) (g := 0) (by omega) (by omega) (by omega) (by omega) ?_
    conv => whnf
    generalize hτ4 : cpL (cpI τ3 47 0 47 0 (465 * (k + 1)) (465 * 0) 465) 48 0 48 0 (13 * (k + 1)) (13 * 0) 13 = τ4
    have b1 : ∀ t i j, ¬ (t = 47 ∧ i = 0 ∧ j < 465) → τ4.1 t i j = τ3.1 t i j := by
      intro t i j q
      rw [← hτ4, cpL1, cpI1, if_neg (by omega)]
    have b2 : ∀ t i j, ¬ (t = 48 ∧ i = 0 ∧ j < 13) → τ4.2.1 t i j = τ3.2.1 t i j := by
      intro t i j q
      rw [← hτ4, cpL2, if_neg (by omega)]
      rfl
    have b3 : τ4.2.2 = τ3.2.2 := by rw [← hτ4]; rfl
    have b47 : ∀ j, j < 457 → τ4.1 47 0 (0 + j) = τ3.1 47 0 (465 * (k + 1) + j) := by
      intro j hj
      rw [← hτ4, cpL1, cpI1, if_pos (by omega), show 465 * (k + 1) + (0 + j - 465 * 0) = 465 * (k + 1) + j by omega]
    have b48 : ∀ j, j < 13 → τ4.2.1 48 0 (0 + j) = τ3.2.1 48 0 (13 * (k + 1) + j) := by
      intro j hj
      rw [← hτ4, cpL2, if_pos (by omega), show 13 * (k + 1) + (0 + j - 13 * 0) = 13 * (k + 1) + j by omega]
      rfl
    rw [b1 46 0 46 (by omega), a1 46 0 46 (by omega), m2, oi_sub, show ((k + 1 : Nat) : Int) - 1 = (k : Int) by omega, wI_16]
    refine s_m_gives hC ?_
    conv => whnf
    have z1 : ∀ t i j, ¬ ((22 ≤ t ∧ t ≤ 36 ∧ i = n) ∨ (37 ≤ t ∧ t ≤ 43 ∧ i = p) ∨ (t = 1 ∧ i = 0 ∧ (j = 15 ∨ j = 16)) ∨ (t = 46 ∧ i = 0 ∧ (j = 46 ∨ j = 2)) ∨ (t = 47 ∧ i = 0 ∧ j < 465)) → (wI (wI τ4 46 0 46 (Int32.ofInt (k : Int))) 46 0 2 (Int32.ofInt 0)).1 t i j = σ.1 t i j := by
      intro t i j q
      rw [wI1, if_neg (by omega), wI1, if_neg (by omega), b1 t i j (by omega), a1 t i j (by omega)]
    have z2 : ∀ t i j, ¬ ((22 ≤ t ∧ t ≤ 36 ∧ i = n) ∨ (t = 48 ∧ i = 0 ∧ j < 13)) → (wI (wI τ4 46 0 46 (Int32.ofInt (k : Int))) 46 0 2 (Int32.ofInt 0)).2.1 t i j = σ.2.1 t i j := by
      intro t i j q
      show τ4.2.1 t i j = _
      rw [b2 t i j (by omega), a2 t i j (by omega)]
    have z3 : (wI (wI τ4 46 0 46 (Int32.ofInt (k : Int))) 46 0 2 (Int32.ofInt 0)).2.2 = σ.2.2 := by
      show τ4.2.2 = _
      rw [b3, a3]
    refine h _ _ ⟨⟨n, p, hq, hn45, hp2, by rw [z3, r1], by rw [z3, r2], by rw [z3, r3], by rw [z3, r4], ?_⟩, ⟨⟨k, by omega, ?_, ?_, fun i hi => ?_⟩, ?_, ?_, ?_, ?_, ?_, ?_⟩, ?_⟩
    · refine hh.cg (fun t j hin => ?_) (fun t j hin => ?_) (fun j hj => ?_) (fun j hj => ?_) ?_ ?_ (fun k hk t a b => ?_)
      · have q2 := hin
        unfold inHI at q2
        rw [wI1, if_neg (by omega), wI1, if_neg (by omega), b1 _ _ _ (by omega), a4 t j hin]
      · have q2 := hin
        unfold inHL at q2
        show τ4.2.1 _ _ _ = _
        rw [b2 _ _ _ (by omega), a5 t j hin]
      · rw [wI1, if_neg (by omega), wI1, if_neg (by omega), b47 j hj, a1 _ _ _ (by omega)]
      · show τ4.2.1 _ _ _ = _
        rw [b48 j hj, a2 _ _ _ (by omega)]
      · rw [wI1, if_neg (by omega), wI1, if_neg (by omega), b1 _ _ _ (by omega), a7]
      · rw [wI1, if_neg (by omega), wI1, if_neg (by omega), b1 _ _ _ (by omega), a6]
      · rw [wI1, if_neg (by omega), wI1, if_neg (by omega), b1 _ _ _ (by omega), a8 t k a b (by omega)]
    · rw [wI1, if_neg (by omega), wI1, if_neg (by omega), b1 1 0 15 (by omega), a15]
    · rw [wI1, if_neg (by omega), wI_16]
    · obtain ⟨hi', hhi⟩ := mk i (by omega)
      refine ⟨hi', hhi.cg (fun t j hin => z1 _ _ _ ?_) (fun t j hin => z2 _ _ _ ?_) (fun j hj => z1 _ _ _ ?_) (fun j hj => z2 _ _ _ ?_) (z1 _ _ _ ?_) (z1 _ _ _ ?_) (fun k _ t a b => z1 _ _ _ ?_)⟩
      · unfold inHI at hin; omega
      · unfold inHL at hin; omega
      all_goals omega
    · obtain ⟨M, S, ht⟩ := hb.2.1.tm
      exact TrM.tr (ht.w (fun t i j q => z1 _ _ _ (by omega)) (fun t j t4 hj => by rw [z2 _ _ _ (by omega), z2 _ _ _ (by omega)]; exact ht.old t4 hj))
    · exact hb.2.2.1.c2 (z1 _ _ _ (by omega)) (z1 _ _ _ (by omega)) (fun j => z1 _ _ _ (by omega)) (fun j => z1 _ _ _ (by omega))
    · exact hb.2.2.2.1.c2 (z1 _ _ _ (by omega)) (z1 _ _ _ (by omega)) (z1 _ _ _ (by omega)) (z1 _ _ _ (by omega))
    · exact hb.2.2.2.2.1.c2 (fun j _ => z1 _ _ _ (by omega)) (fun j => z1 _ _ _ (by omega)) (z1 _ _ _ (by omega))
    · exact hb.2.2.2.2.2.1.c2 (z2 _ _ _ (by omega)) (z2 _ _ _ (by omega)) (z2 _ _ _ (by omega)) (z2 _ _ _ (by omega))
    · exact hb.2.2.2.2.2.2.c2 (fun j => z2 _ _ _ (by omega))
    · rw [wI1, if_neg (by omega), wI1, if_neg (by omega), b1 1 0 16 (by omega), a16, wI_16]
  · refine s_none hC ?_
    conv => whnf
    refine r_m_undo hC (fun J hJ => ?_)
    refine hJ _ _ _ _ ?_
    conv => whnf
    rw [wI1, if_neg (by omega), m2]
    refine ⟨fun c2 => ?_, fun c2 => ?_⟩ <;> (try simp (disch := omega) only [oi_le, oi_lt, oi_eq, oi_lt0, oi_le0, oi_0lt, oi_0le, oi_eq0, oi_eq1, bI_eq0, bI_ne0, bI_eq1, decide_eq_true_eq, decide_eq_false_iff_not, lc_lt, lc_gt, lc_eq, lc_ge, lc_le, ol_lt, ol_eq, ne_eq, Int.not_lt, Int.not_le, Bool.not_eq_true, Bool.not_eq_false, Decidable.not_not, not_true_eq_false, not_false_eq_true, Bool.true_eq_false, Bool.false_eq_true] at c2) <;> (first | (exfalso; omega) | ((with_reducible refine hJ _ _ _ _ ?_); conv => whnf) | (conv => whnf))
    refine s_m_refuse hC ?_
    conv => whnf
    exact h _ _ (hR.sc done2.1 done2.2)
