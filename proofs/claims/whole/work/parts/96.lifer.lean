section WDs2
variable {a b : Int} {d : Nat → Nat → Int} {s : Nat} {dep : Nat → Nat}
theorem nxtF_le (w : WD a b d s dep) {k : Nat} (hk : k < s) (h : Nat → Int) : nxtF d k h ≤ s := by
  unfold nxtF
  split
  · rename_i hc
    obtain ⟨-, e, p2, p3, p4, -⟩ := w.op hk (Or.inr hc.1)
    omega
  · omega
theorem LC.step (w : WD a b d s dep) {k o : Nat} {h : Nat → Int} (hk : k < s) (hc : LC d (nxtF d k h) o) : (o = k ∧ d k 0 = 17) ∨ (o ≠ k ∧ LC d k o) := by
  have os : o < s := hc.lt w (nxtF_le w hk h)
  unfold nxtF at hc
  by_cases c : 1600 ≤ d k 0 ∧ holdS (d k) h = false
  · rw [if_pos c] at hc
    obtain ⟨-, e, p2, p3, p4, -⟩ := w.op hk (Or.inr c.1)
    rw [p2, Int.toNat_natCast] at hc
    have := hc.over w hk (Or.inr c.1) p2 (by omega) os
    exact Or.inr ⟨by have := this.2.1; omega, this⟩
  · rw [if_neg c] at hc
    by_cases e : o = k
    · subst e
      exact Or.inl ⟨rfl, hc.1⟩
    · exact Or.inr ⟨e, hc.1, by have := hc.2.1; omega, by have := hc.2.2; omega⟩
end WDs2
theorem wR1 (σ : AM) (t i j x t' i' j' : Nat) : (wR σ t i j x).2.2 t' i' j' = if t' = t ∧ i' = i ∧ j' = j then x else σ.2.2 t' i' j' := rfl
theorem wR0 (σ : AM) (t i j x : Nat) : (wR σ t i j x).1 = σ.1 := rfl
theorem s_behindEnd {CALL : CT} (hC : RuleAll CALL) {r : Nat} {σ : AM} {K : AV → AM → Prop} {i q p s k o : Nat} {d : Nat → Nat → Int} {lp : Nat → Int} {a b : Int} (hl : LF σ i q p s d) (hk : k < s) (he : d k 0 = 18) (ho : d k 4 = (o : Int)) (ok : o < k) (hf : StepOk a b (d o)) (h20 : d o 0 = 17 → σ.1 20 i o = Int32.ofInt (lp o + 1) ∧ 0 ≤ lp o ∧ lp o ≤ 98) (h1 : (d o 0 = 17 ∧ 0 < lp o ∧ o + 1 ≠ k) → K (.inl (Int32.ofInt ((o + 1 : Nat) : Int))) (wI σ 20 i o (Int32.ofInt (lp o)))) (h2 : ¬ (d o 0 = 17 ∧ 0 < lp o ∧ o + 1 ≠ k) → ∀ σ' : AM, (σ' = σ ∨ σ' = wI σ 20 i o (Int32.ofInt (lp o))) → K (.inl (Int32.ofInt ((k + 1 : Nat) : Int))) σ') : CALL (r + 1) n_Life_behindEnd [.inr (.inr (19, i)), .inl (Int32.ofInt k)] σ K := by
  refine r_Life_behindEnd hC (fun J hJ => ?_)
  refine hJ _ _ _ _ ?_
  conv => whnf
  obtain ⟨l1, l2, l3, l4, l5, l6, l7⟩ := id hl
  have s6 := (l7 k hk).2.2.2.2.2 (Or.inr he)
  have s1 := (l7 o (by omega)).1
  have ko := kdC_or hf
  rw [l2]
  refine ⟨l4, ?_⟩
  conv => whnf
  refine ⟨(oi_in (by omega) (by omega)).mpr ⟨by omega, by omega⟩, ?_⟩
  conv => whnf
  rw [oi_nat (by omega) (by omega), Int.toNat_natCast, s6, ho]
  have at35 : ¬ (d o 0 = 17 ∧ 0 < lp o ∧ o + 1 ≠ k) → J 35 [.inr (.inr (19, i)), .inl (Int32.ofInt (k : Int)), .inl (Int32.ofInt (o : Int))] [] σ := by
    intro hno
    refine hJ _ _ _ _ ?_
    conv => whnf
    rw [oi_succ]
    exact h2 hno σ (Or.inl rfl)
  refine ⟨fun c => ?_, fun c => ?_⟩ <;> (try simp (disch := omega) only [oi_le, oi_lt, oi_eq, oi_lt0, oi_le0, oi_0lt, oi_0le, oi_eq0, oi_eq1, bI_eq0, bI_ne0, bI_eq1, decide_eq_true_eq, decide_eq_false_iff_not, lc_lt, lc_gt, lc_eq, lc_ge, lc_le, ol_lt, ol_eq, ne_eq, Int.not_lt, Int.not_le, Bool.not_eq_true, Bool.not_eq_false, Decidable.not_not, not_true_eq_false, not_false_eq_true, Bool.true_eq_false, Bool.false_eq_true] at c) <;> (first | (exfalso; omega) | ((fail_if_success with_reducible refine hJ _ _ _ _ ?_); conv => whnf) | skip)
  rw [l2]
  refine ⟨l4, ?_⟩
  conv => whnf
  refine ⟨(oi_in (by omega) (by omega)).mpr ⟨by omega, by omega⟩, ?_⟩
  conv => whnf
  rw [oi_nat (by omega) (by omega), Int.toNat_natCast, s1]
  refine ⟨fun c2 => ?_, fun c2 => ?_⟩ <;> (try simp (disch := omega) only [oi_le, oi_lt, oi_eq, oi_lt0, oi_le0, oi_0lt, oi_0le, oi_eq0, oi_eq1, bI_eq0, bI_ne0, bI_eq1, decide_eq_true_eq, decide_eq_false_iff_not, lc_lt, lc_gt, lc_eq, lc_ge, lc_le, ol_lt, ol_eq, ne_eq, Int.not_lt, Int.not_le, Bool.not_eq_true, Bool.not_eq_false, Decidable.not_not, not_true_eq_false, not_false_eq_true, Bool.true_eq_false, Bool.false_eq_true] at c2) <;> (first | (exfalso; omega) | ((fail_if_success with_reducible refine hJ _ _ _ _ ?_); conv => whnf) | skip)
  · exact at35 (fun z => c2 (by omega))
  · have e17 : d o 0 = 17 := by omega
    obtain ⟨r1, r2, r3⟩ := h20 e17
    clear ko
    rw [oi_succ]
    refine ⟨fun c3 => ?_, fun c3 => ?_⟩ <;> (try simp (disch := omega) only [oi_le, oi_lt, oi_eq, oi_lt0, oi_le0, oi_0lt, oi_0le, oi_eq0, oi_eq1, bI_eq0, bI_ne0, bI_eq1, decide_eq_true_eq, decide_eq_false_iff_not, lc_lt, lc_gt, lc_eq, lc_ge, lc_le, ol_lt, ol_eq, ne_eq, Int.not_lt, Int.not_le, Bool.not_eq_true, Bool.not_eq_false, Decidable.not_not, not_true_eq_false, not_false_eq_true, Bool.true_eq_false, Bool.false_eq_true] at c3) <;> (first | (exfalso; omega) | ((fail_if_success with_reducible refine hJ _ _ _ _ ?_); conv => whnf) | skip)
    · refine hJ _ _ _ _ ?_
      conv => whnf
      refine ⟨(oi_in (by omega) (by omega)).mpr ⟨by omega, by omega⟩, ?_⟩
      conv => whnf
      refine ⟨(oi_in (by omega) (by omega)).mpr ⟨by omega, by omega⟩, ?_⟩
      conv => whnf
      rw [oi_nat (by omega) (by omega), Int.toNat_natCast, r1, oi_sub, show lp o + 1 - 1 = lp o by omega]
      refine ⟨(oi_in (by omega) (by omega)).mpr ⟨by omega, by omega⟩, ?_⟩
      conv => whnf
      rw [wI_16]
      refine ⟨fun c4 => ?_, fun c4 => ?_⟩ <;> (try simp (disch := omega) only [oi_le, oi_lt, oi_eq, oi_lt0, oi_le0, oi_0lt, oi_0le, oi_eq0, oi_eq1, bI_eq0, bI_ne0, bI_eq1, decide_eq_true_eq, decide_eq_false_iff_not, lc_lt, lc_gt, lc_eq, lc_ge, lc_le, ol_lt, ol_eq, ne_eq, Int.not_lt, Int.not_le, Bool.not_eq_true, Bool.not_eq_false, Decidable.not_not, not_true_eq_false, not_false_eq_true, Bool.true_eq_false, Bool.false_eq_true] at c4) <;> (first | (exfalso; omega) | ((with_reducible refine hJ _ _ _ _ ?_); conv => whnf) | (conv => whnf))
      · refine hJ _ _ _ _ ?_
        conv => whnf
        rw [oi_succ]
        exact h2 (by omega) _ (Or.inr rfl)
      · rw [oi_succ]
        refine hJ _ _ _ _ ?_
        conv => whnf
        exact h1 ⟨e17, by omega, by omega⟩
    · exact at35 (fun z => z.2.2 (by omega))
/-- what is so between two moves -/
def LI (σ : AM) (i q p s : Nat) (d : Nat → Nat → Int) (k : Nat) (lp : Nat → Int) (S : DS) (n : Nat) : Prop := LF σ i q p s d ∧ HRep σ q S.1 ∧ σ.1 19 i 3 = Int32.ofInt S.2.1 ∧ σ.1 19 i 5 = Int32.ofInt S.2.2 ∧ σ.1 19 i 4 = Int32.ofInt (300 - (n : Int)) ∧ ∀ o, LC d k o → σ.1 20 i o = Int32.ofInt (lp o + 1) ∧ 0 ≤ lp o ∧ lp o ≤ 98
def mvS (i q t p j : Nat) : Prop := HS q t p ∨ (t = 19 ∧ p = i ∧ (j = 3 ∨ j = 4 ∨ j = 5)) ∨ (t = 20 ∧ p = i)
theorem mvS_st {i q t p j : Nat} (h : mvS i q t p j) : stS i q t p j := by
  rcases h with h | h | h
  · exact Or.inl h
  · exact Or.inr (Or.inl ⟨h.1, h.2.1, by omega, by omega⟩)
  · exact Or.inr (Or.inr h)
def runS (i q t p _j : Nat) : Prop := HS q t p ∨ ((t = 19 ∨ t = 20) ∧ p = i)
theorem s_run {CALL : CT} (hC : RuleAll CALL) {r : Nat} {σ : AM} {K : AV → AM → Prop} {i q p s : Nat} {d : Nat → Nat → Int} {dep : Nat → Nat} {h0 : Nat → Int} {g : Int} (q9 : q < 9) (p5 : p < 5) (h6 : σ.1 37 p 6 = Int32.ofInt (s : Int)) (hS : ∀ k, k < s → StepC σ p k (d k)) (hr : HRep σ q h0) (hwp : WP h0) (h59 : h0 5 ≤ 9999) (wd : WD (h0 0) (h0 1) d s dep) (g0 : 0 ≤ g) (g1 : g < 65536) (h : ∀ σ' : AM, (∀ t r j, ¬ runS i q t r j → σ'.1 t r j = σ.1 t r j) → σ'.2.1 = σ.2.1 → (∀ t r j, t ≠ 19 → σ'.2.2 t r j = σ.2.2 t r j) → HRep σ' q (runF d s 300 0 (fun _ => 0) (h0, g, 0)).1.1 → σ'.1 19 i 4 = Int32.ofInt (300 - ((runF d s 300 0 (fun _ => 0) (h0, g, 0)).2.1 : Int)) → σ'.1 19 i 5 = Int32.ofInt (runF d s 300 0 (fun _ => 0) (h0, g, 0)).1.2.2 → σ'.1 19 i 6 = Int32.ofInt ((runF d s 300 0 (fun _ => 0) (h0, g, 0)).1.1 5 - h0 5) → σ'.1 19 i 7 = Int32.ofInt ((runF d s 300 0 (fun _ => 0) (h0, g, 0)).1.1 6 - h0 6) → σ'.1 19 i 8 = Int32.ofInt ((runF d s 300 0 (fun _ => 0) (h0, g, 0)).1.1 7 - h0 7) → σ'.1 19 i 9 = bI (runF d s 300 0 (fun _ => 0) (h0, g, 0)).2.2 → σ'.1 19 i 10 = Int32.ofInt 1 → K unset σ') : CALL (r + 7) n_Life_run [.inr (.inr (19, i)), .inr (.inr (22, q)), .inr (.inr (37, p)), .inl (Int32.ofInt g)] σ K := by
  refine r_Life_run hC (fun J hJ => ?_)
  refine hJ _ _ _ _ ?_
  conv => whnf
  have s60 : s ≤ 60 := wd.1
  obtain ⟨q0, q1, q2, q3, q4, q5, q6, q7, q8, q9', qa, qt, qm, qe⟩ := id hr
  have b := hwp.1.1
  refine ⟨Or.inl rfl, ?_⟩
  conv => whnf
  refine ⟨Or.inr rfl, ?_⟩
  conv => whnf
  generalize hτ : wI (wI (wI (wI (wI (wR (wR σ 19 i 1 q) 19 i 2 p) 19 i 3 (Int32.ofInt g)) 19 i 4 (Int32.ofInt 0)) 19 i 5 (Int32.ofInt 0)) 19 i 9 (Int32.ofInt 0)) 19 i 10 (Int32.ofInt 1) = τ
  have t1 : ∀ t r j, ¬ (t = 19 ∧ r = i) → τ.1 t r j = σ.1 t r j := by
    intro t r j z
    rw [← hτ]
    rw [wI1, if_neg (by omega), wI1, if_neg (by omega), wI1, if_neg (by omega), wI1, if_neg (by omega), wI1, if_neg (by omega), wR0, wR0]
  have t2 : τ.2.1 = σ.2.1 := by rw [← hτ]; rfl
  have t3 : ∀ t r j, τ.2.2 t r j = if t = 19 ∧ r = i ∧ j = 2 then p else if t = 19 ∧ r = i ∧ j = 1 then q else σ.2.2 t r j := by
    intro t r j
    rw [← hτ]
    show (wR (wR σ 19 i 1 q) 19 i 2 p).2.2 t r j = _
    rw [wR1, wR1]
  have t191 : τ.2.2 19 i 1 = q := by rw [t3, if_neg (by omega), if_pos ⟨rfl, rfl, rfl⟩]
  have t192 : τ.2.2 19 i 2 = p := by rw [t3, if_pos ⟨rfl, rfl, rfl⟩]
  have f3 : τ.1 19 i 3 = Int32.ofInt g := by rw [← hτ, wI1, if_neg (by omega), wI1, if_neg (by omega), wI1, if_neg (by omega), wI1, if_neg (by omega), wI_16]
  have f4 : τ.1 19 i 4 = Int32.ofInt 0 := by rw [← hτ, wI1, if_neg (by omega), wI1, if_neg (by omega), wI1, if_neg (by omega), wI_16]
  have f5 : τ.1 19 i 5 = Int32.ofInt 0 := by rw [← hτ, wI1, if_neg (by omega), wI1, if_neg (by omega), wI_16]
  have f9 : τ.1 19 i 9 = Int32.ofInt 0 := by rw [← hτ, wI1, if_neg (by omega), wI_16]
  have f10 : τ.1 19 i 10 = Int32.ofInt 1 := by rw [← hτ, wI_16]
  have hrτ : HRep τ q h0 := by
    have := hr.cha (S := fun t r j => t = 19) (SL := fun _ _ _ => True) (σ' := (τ.1, σ.2.1, σ.2.2)) ⟨fun t r j z => t1 t r j (fun y => z y.1), fun _ _ _ z => absurd trivial z, rfl⟩ (fun t j a b => by omega)
    exact this.i1 rfl
  clear hτ
  rw [t191]
  refine ⟨q9, ?_⟩
  conv => whnf
  rw [t1 22 q 7 (by omega), q5, oi_neg, wI22, t191]
  refine ⟨q9, ?_⟩
  conv => whnf
  rw [wI1, if_neg (by omega), t1 22 q 8 (by omega), q6, oi_neg, wI22, wI22, t191]
  refine ⟨q9, ?_⟩
  conv => whnf
  rw [wI1, if_neg (by omega), wI1, if_neg (by omega), t1 22 q 9 (by omega), q7, oi_neg]
  generalize hρ : wI (wI (wI τ 19 i 6 (Int32.ofInt (-h0 5))) 19 i 7 (Int32.ofInt (-h0 6))) 19 i 8 (Int32.ofInt (-h0 7)) = ρ
  have r1 : ∀ t r j, ¬ (t = 19 ∧ r = i ∧ 6 ≤ j ∧ j ≤ 8) → ρ.1 t r j = τ.1 t r j := by
    intro t r j z
    rw [← hρ, wI1, if_neg (by omega), wI1, if_neg (by omega), wI1, if_neg (by omega)]
  have r2 : ρ.2 = τ.2 := by rw [← hρ]; rfl
  have e6 : ρ.1 19 i 6 = Int32.ofInt (-h0 5) := by rw [← hρ, wI1, if_neg (by omega), wI1, if_neg (by omega), wI_16]
  have e7 : ρ.1 19 i 7 = Int32.ofInt (-h0 6) := by rw [← hρ, wI1, if_neg (by omega), wI_16]
  have e8 : ρ.1 19 i 8 = Int32.ofInt (-h0 7) := by rw [← hρ, wI_16]
  clear hρ
  have hl0 : LF ρ i q p s d := by
    refine ⟨by rw [r2]; exact t191, by rw [r2]; exact t192, q9, p5, s60, ?_, fun k hk => (hS k hk).cg (fun t a1 a2 => ?_)⟩
    · rw [r1 _ _ _ (by omega), t1 _ _ _ (by omega), h6]
    · rw [r1 _ _ _ (by omega), t1 _ _ _ (by omega)]
  have hr0 : HRep ρ q h0 := hrτ.ch (S := fun t r j => t = 19) ⟨fun t r j z => r1 t r j (fun y => z y.1), r2⟩ (fun t j a b => by omega)
  -- the end
  have fin : ∀ (σe : AM) (x4 x5 : AV) (R : DS × Nat × Bool), Ch (mvS i q) (if R.2.2 then wI ρ 19 i 9 (Int32.ofInt 1) else ρ) σe → HRep σe q R.1.1 → σe.1 19 i 4 = Int32.ofInt (300 - (R.2.1 : Int)) → σe.1 19 i 5 = Int32.ofInt R.1.2.2 → R = runF d s 300 0 (fun _ => 0) (h0, g, 0) → J 178 [.inr (.inr (19, i)), .inr (.inr (22, q)), .inr (.inr (37, p)), .inl (Int32.ofInt g), x4, x5] [] σe := by
    intro σe x4 x5 R hc hre e4 e5 hR
    rw [← hR] at h
    have g2 : σe.2 = ρ.2 := by rw [hc.2]; split <;> rfl
    have g1 : ∀ t r j, ¬ mvS i q t r j → ¬ (t = 19 ∧ r = i ∧ j = 9) → σe.1 t r j = ρ.1 t r j := by
      intro t r j z1 z2
      rw [hc.1 t r j z1]
      split
      · rw [wI1, if_neg z2]
      · rfl
    have g9 : σe.1 19 i 9 = bI R.2.2 := by
      rw [hc.1 19 i 9 (by unfold mvS HS; omega)]
      cases hb : R.2.2 with
      | true => rw [if_pos rfl, wI_16]; rfl
      | false => rw [if_neg (by decide), r1 _ _ _ (by omega), f9]; rfl
    have le1 : σe.2.2 19 i 1 = q := by rw [g2, r2]; exact t191
    have m6 : σe.1 19 i 6 = Int32.ofInt (-h0 5) := by rw [g1 _ _ _ (by unfold mvS HS; omega) (by omega), e6]
    have m7 : σe.1 19 i 7 = Int32.ofInt (-h0 6) := by rw [g1 _ _ _ (by unfold mvS HS; omega) (by omega), e7]
    have m8 : σe.1 19 i 8 = Int32.ofInt (-h0 7) := by rw [g1 _ _ _ (by unfold mvS HS; omega) (by omega), e8]
    obtain ⟨-, -, -, -, -, p5, p6, p7, -⟩ := id hre
    refine hJ _ _ _ _ ?_
    conv => whnf
    rw [le1]
    refine ⟨q9, ?_⟩
    conv => whnf
    rw [m6, p5, oi_add, wI22, le1]
    refine ⟨q9, ?_⟩
    conv => whnf
    rw [wI1, if_neg (by omega), m7, wI1, if_neg (by omega), p6, oi_add, wI22, wI22, le1]
    refine ⟨q9, ?_⟩
    conv => whnf
    rw [wI1, if_neg (by omega), wI1, if_neg (by omega), m8, wI1, if_neg (by omega), wI1, if_neg (by omega), p7, oi_add, show -h0 5 + R.1.1 5 = R.1.1 5 - h0 5 by omega, show -h0 6 + R.1.1 6 = R.1.1 6 - h0 6 by omega, show -h0 7 + R.1.1 7 = R.1.1 7 - h0 7 by omega]
    refine h _ (fun t r j z => ?_) ?_ (fun t r j z => ?_) ?_ ?_ ?_ ?_ ?_ ?_ ?_ ?_
    · have z2 := z
      unfold runS HS at z2
      rw [wI1, if_neg (by omega), wI1, if_neg (by omega), wI1, if_neg (by omega), g1 _ _ _ (by unfold mvS HS; omega) (by omega), r1 _ _ _ (by omega), t1 _ _ _ (by omega)]
    · show σe.2.1 = _
      rw [g2, r2, t2]
    · show σe.2.2 t r j = _
      rw [g2, r2, t3, if_neg (by omega), if_neg (by omega)]
    · exact ((hre.ch (S := fun t i j => t = 19) (Ch.wI rfl) (fun t j a b => by omega)).ch (S := fun t i j => t = 19) (Ch.wI rfl) (fun t j a b => by omega)).ch (S := fun t i j => t = 19) (Ch.wI rfl) (fun t j a b => by omega)
    · rw [wI1, if_neg (by omega), wI1, if_neg (by omega), wI1, if_neg (by omega), e4]
    · rw [wI1, if_neg (by omega), wI1, if_neg (by omega), wI1, if_neg (by omega), e5]
    · rw [wI1, if_neg (by omega), wI1, if_neg (by omega), wI_16]
    · rw [wI1, if_neg (by omega), wI_16]
    · rw [wI_16]
    · rw [wI1, if_neg (by omega), wI1, if_neg (by omega), wI1, if_neg (by omega), g9]
    · rw [wI1, if_neg (by omega), wI1, if_neg (by omega), wI1, if_neg (by omega), g1 _ _ _ (by unfold mvS HS; omega) (by omega), r1 _ _ _ (by omega), f10]
  -- no place more, or a step was left
  have out : ∀ (σe : AM) (k mv : Nat), s ≤ k → k ≤ 1000 → mv ≤ 20000 → LF σe i q p s d → J 178 [.inr (.inr (19, i)), .inr (.inr (22, q)), .inr (.inr (37, p)), .inl (Int32.ofInt g), .inl (Int32.ofInt (k : Int)), .inl (Int32.ofInt (mv : Int))] [] σe → J 77 [.inr (.inr (19, i)), .inr (.inr (22, q)), .inr (.inr (37, p)), .inl (Int32.ofInt g), .inl (Int32.ofInt (k : Int)), .inl (Int32.ofInt (mv : Int))] [] σe := by
    intro σe k mv hk1 hk2 hmv hl hj
    refine hJ _ _ _ _ ?_
    conv => whnf
    refine ⟨fun c => ?_, fun c => ?_⟩ <;> (try simp (disch := omega) only [oi_le, oi_lt, oi_eq, oi_lt0, oi_le0, oi_0lt, oi_0le, oi_eq0, oi_eq1, bI_eq0, bI_ne0, bI_eq1, decide_eq_true_eq, decide_eq_false_iff_not, lc_lt, lc_gt, lc_eq, lc_ge, lc_le, ol_lt, ol_eq, ne_eq, Int.not_lt, Int.not_le, Bool.not_eq_true, Bool.not_eq_false, Decidable.not_not, not_true_eq_false, not_false_eq_true, Bool.true_eq_false, Bool.false_eq_true] at c) <;> (first | (exfalso; omega) | ((fail_if_success with_reducible refine hJ _ _ _ _ ?_); conv => whnf) | skip)
    · exact hj
    · rw [hl.2.1]
      refine ⟨p5, ?_⟩
      conv => whnf
      rw [hl.2.2.2.2.2.1, oi_sub]
      refine s_withinI hC (by omega) (by omega) (by omega) (by omega) (by omega) (by omega) ?_
      conv => whnf
      refine ⟨fun c2 => ?_, fun c2 => ?_⟩ <;> (try simp (disch := omega) only [oi_le, oi_lt, oi_eq, oi_lt0, oi_le0, oi_0lt, oi_0le, oi_eq0, oi_eq1, bI_eq0, bI_ne0, bI_eq1, decide_eq_true_eq, decide_eq_false_iff_not, lc_lt, lc_gt, lc_eq, lc_ge, lc_le, ol_lt, ol_eq, ne_eq, Int.not_lt, Int.not_le, Bool.not_eq_true, Bool.not_eq_false, Decidable.not_not, not_true_eq_false, not_false_eq_true, Bool.true_eq_false, Bool.false_eq_true] at c2) <;> (first | (exfalso; omega) | ((fail_if_success with_reducible refine hJ _ _ _ _ ?_); conv => whnf) | skip)
      exact hj
  -- at a place where no end stands
  have inn : ∀ (σe : AM) (k mv : Nat), k < s → mv < 10000 → LF σe i q p s d → σe.1 19 i 9 = Int32.ofInt 0 → d k 0 ≠ 18 → J 136 [.inr (.inr (19, i)), .inr (.inr (22, q)), .inr (.inr (37, p)), .inl (Int32.ofInt g), .inl (Int32.ofInt (k : Int)), .inl (Int32.ofInt (mv : Int))] [] σe → J 77 [.inr (.inr (19, i)), .inr (.inr (22, q)), .inr (.inr (37, p)), .inl (Int32.ofInt g), .inl (Int32.ofInt (k : Int)), .inl (Int32.ofInt (mv : Int))] [] σe := by
    intro σe k mv hk hmv hl h9 hne k2
    have ko := kdC_or (wd.2.2.2.2 k hk).1
    have s1 := (hl.2.2.2.2.2.2 k hk).1
    refine hJ _ _ _ _ ?_
    conv => whnf
    refine ⟨fun c => ?_, fun c => ?_⟩ <;> (try simp (disch := omega) only [oi_le, oi_lt, oi_eq, oi_lt0, oi_le0, oi_0lt, oi_0le, oi_eq0, oi_eq1, bI_eq0, bI_ne0, bI_eq1, decide_eq_true_eq, decide_eq_false_iff_not, lc_lt, lc_gt, lc_eq, lc_ge, lc_le, ol_lt, ol_eq, ne_eq, Int.not_lt, Int.not_le, Bool.not_eq_true, Bool.not_eq_false, Decidable.not_not, not_true_eq_false, not_false_eq_true, Bool.true_eq_false, Bool.false_eq_true] at c) <;> (first | (exfalso; omega) | ((fail_if_success with_reducible refine hJ _ _ _ _ ?_); conv => whnf) | skip)
    rw [hl.2.1]
    refine ⟨p5, ?_⟩
    conv => whnf
    rw [hl.2.2.2.2.2.1, oi_sub]
    refine s_withinI hC (by omega) (by omega) (by omega) (by omega) (by omega) (by omega) ?_
    conv => whnf
    refine ⟨fun c2 => ?_, fun c2 => ?_⟩ <;> (try simp (disch := omega) only [oi_le, oi_lt, oi_eq, oi_lt0, oi_le0, oi_0lt, oi_0le, oi_eq0, oi_eq1, bI_eq0, bI_ne0, bI_eq1, decide_eq_true_eq, decide_eq_false_iff_not, lc_lt, lc_gt, lc_eq, lc_ge, lc_le, ol_lt, ol_eq, ne_eq, Int.not_lt, Int.not_le, Bool.not_eq_true, Bool.not_eq_false, Decidable.not_not, not_true_eq_false, not_false_eq_true, Bool.true_eq_false, Bool.false_eq_true] at c2) <;> (first | (exfalso; omega) | ((fail_if_success with_reducible refine hJ _ _ _ _ ?_); conv => whnf) | skip)
    rw [h9]
    refine ⟨fun c3 => ?_, fun c3 => ?_⟩ <;> (try simp (disch := omega) only [oi_le, oi_lt, oi_eq, oi_lt0, oi_le0, oi_0lt, oi_0le, oi_eq0, oi_eq1, bI_eq0, bI_ne0, bI_eq1, decide_eq_true_eq, decide_eq_false_iff_not, lc_lt, lc_gt, lc_eq, lc_ge, lc_le, ol_lt, ol_eq, ne_eq, Int.not_lt, Int.not_le, Bool.not_eq_true, Bool.not_eq_false, Decidable.not_not, not_true_eq_false, not_false_eq_true, Bool.true_eq_false, Bool.false_eq_true] at c3) <;> (first | (exfalso; omega) | ((fail_if_success with_reducible refine hJ _ _ _ _ ?_); conv => whnf) | skip)
    rw [hl.2.1]
    refine ⟨p5, ?_⟩
    conv => whnf
    refine ⟨(oi_in (by omega) (by omega)).mpr ⟨by omega, by omega⟩, ?_⟩
    conv => whnf
    rw [oi_nat (by omega) (by omega), Int.toNat_natCast, s1]
    refine ⟨fun c4 => ?_, fun c4 => ?_⟩ <;> (try simp (disch := omega) only [oi_le, oi_lt, oi_eq, oi_lt0, oi_le0, oi_0lt, oi_0le, oi_eq0, oi_eq1, bI_eq0, bI_ne0, bI_eq1, decide_eq_true_eq, decide_eq_false_iff_not, lc_lt, lc_gt, lc_eq, lc_ge, lc_le, ol_lt, ol_eq, ne_eq, Int.not_lt, Int.not_le, Bool.not_eq_true, Bool.not_eq_false, Decidable.not_not, not_true_eq_false, not_false_eq_true, Bool.true_eq_false, Bool.false_eq_true] at c4) <;> (first | (exfalso; omega) | ((fail_if_success with_reducible refine hJ _ _ _ _ ?_); conv => whnf) | skip)
    exact k2
  have e9 : ∀ σe : AM, Ch (mvS i q) ρ σe → σe.1 19 i 9 = Int32.ofInt 0 := fun σe hc => by rw [hc.1 _ _ _ (by unfold mvS HS; omega), r1 _ _ _ (by omega), f9]
  -- the ends
  have endsC : ∀ (f k : Nat) (lp : Nat → Int) (S : DS) (n mv : Nat) (σe : AM), k ≤ s → dep k ≤ f → mv + f ≤ 9999 → LI σe i q p s d k lp S n → Ch (mvS i q) ρ σe → (∀ (σ' : AM) (mv' : Nat), mv' ≤ mv + f → LI σ' i q p s d (endsF d s f k lp).1 (endsF d s f k lp).2 S n → Ch (mvS i q) ρ σ' → J 77 [.inr (.inr (19, i)), .inr (.inr (22, q)), .inr (.inr (37, p)), .inl (Int32.ofInt g), .inl (Int32.ofInt (((endsF d s f k lp).1 : Nat) : Int)), .inl (Int32.ofInt (mv' : Int))] [] σ') → J 77 [.inr (.inr (19, i)), .inr (.inr (22, q)), .inr (.inr (37, p)), .inl (Int32.ofInt g), .inl (Int32.ofInt (k : Int)), .inl (Int32.ofInt (mv : Int))] [] σe := by
    intro f
    induction f with
    | zero =>
      intro k lp S n mv σe hk hd hmv hI hc kk
      exact kk σe mv (by omega) hI hc
    | succ f ih =>
      intro k lp S n mv σe hk hd hmv hI hc kk
      rw [endsF] at kk
      by_cases ce : k < s ∧ d k 0 = 18
      · rw [if_pos ce] at kk
        obtain ⟨p1, o, p2, p3, p4, p5'⟩ := wd.en ce.1 ce.2
        rw [p2, Int.toNat_natCast] at kk
        obtain ⟨hl, hre, i3, i5, i4, i20⟩ := id hI
        have s1 := (hl.2.2.2.2.2.2 k ce.1).1
        rw [ce.2] at s1
        have h9 := e9 σe hc
        refine hJ _ _ _ _ ?_
        conv => whnf
        refine ⟨fun c => ?_, fun c => ?_⟩ <;> (try simp (disch := omega) only [oi_le, oi_lt, oi_eq, oi_lt0, oi_le0, oi_0lt, oi_0le, oi_eq0, oi_eq1, bI_eq0, bI_ne0, bI_eq1, decide_eq_true_eq, decide_eq_false_iff_not, lc_lt, lc_gt, lc_eq, lc_ge, lc_le, ol_lt, ol_eq, ne_eq, Int.not_lt, Int.not_le, Bool.not_eq_true, Bool.not_eq_false, Decidable.not_not, not_true_eq_false, not_false_eq_true, Bool.true_eq_false, Bool.false_eq_true] at c) <;> (first | (exfalso; omega) | ((fail_if_success with_reducible refine hJ _ _ _ _ ?_); conv => whnf) | skip)
        rw [hl.2.1]
        refine ⟨p5, ?_⟩
        conv => whnf
        rw [hl.2.2.2.2.2.1, oi_sub]
        refine s_withinI hC (by omega) (by omega) (by omega) (by omega) (by omega) (by omega) ?_
        conv => whnf
        refine ⟨fun c2 => ?_, fun c2 => ?_⟩ <;> (try simp (disch := omega) only [oi_le, oi_lt, oi_eq, oi_lt0, oi_le0, oi_0lt, oi_0le, oi_eq0, oi_eq1, bI_eq0, bI_ne0, bI_eq1, decide_eq_true_eq, decide_eq_false_iff_not, lc_lt, lc_gt, lc_eq, lc_ge, lc_le, ol_lt, ol_eq, ne_eq, Int.not_lt, Int.not_le, Bool.not_eq_true, Bool.not_eq_false, Decidable.not_not, not_true_eq_false, not_false_eq_true, Bool.true_eq_false, Bool.false_eq_true] at c2) <;> (first | (exfalso; omega) | ((fail_if_success with_reducible refine hJ _ _ _ _ ?_); conv => whnf) | skip)
        rw [h9]
        refine ⟨fun c3 => ?_, fun c3 => ?_⟩ <;> (try simp (disch := omega) only [oi_le, oi_lt, oi_eq, oi_lt0, oi_le0, oi_0lt, oi_0le, oi_eq0, oi_eq1, bI_eq0, bI_ne0, bI_eq1, decide_eq_true_eq, decide_eq_false_iff_not, lc_lt, lc_gt, lc_eq, lc_ge, lc_le, ol_lt, ol_eq, ne_eq, Int.not_lt, Int.not_le, Bool.not_eq_true, Bool.not_eq_false, Decidable.not_not, not_true_eq_false, not_false_eq_true, Bool.true_eq_false, Bool.false_eq_true] at c3) <;> (first | (exfalso; omega) | ((fail_if_success with_reducible refine hJ _ _ _ _ ?_); conv => whnf) | skip)
        rw [hl.2.1]
        refine ⟨p5, ?_⟩
        conv => whnf
        refine ⟨(oi_in (by omega) (by omega)).mpr ⟨by omega, by omega⟩, ?_⟩
        conv => whnf
        rw [oi_nat (by omega) (by omega), Int.toNat_natCast, s1]
        refine ⟨fun c4 => absurd rfl c4, fun _ => ?_⟩
        conv => whnf
        have frw : ∀ x : Int32, Ch (mvS i q) ρ (wI σe 20 i o x) := fun x => hc.tr (Ch.wI (Or.inr (Or.inr ⟨rfl, rfl⟩)))
        have lfw : ∀ x : Int32, LF (wI σe 20 i o x) i q p s d := fun x => hl.ch (Ch.wI (Or.inr (Or.inr ⟨rfl, rfl⟩)))
        have hrw : ∀ x : Int32, HRep (wI σe 20 i o x) q S.1 := fun x => hre.ch (S := fun t i j => t = 20) (Ch.wI rfl) (fun t j a b => by omega)
        refine s_behindEnd hC hl ce.1 ce.2 p2 p3 (wd.2.2.2.2 o (by omega)).1 (fun z => i20 o ⟨z, p3, by omega⟩) (fun z => ?_) (fun z σ' hσ' => ?_)
        · conv => whnf
          refine hJ _ _ _ _ ?_
          conv => whnf
          rw [oi_succ]
          rw [if_pos z] at kk
          have lo := i20 o ⟨z.1, p3, by omega⟩
          refine kk _ (mv + 1) (by omega) ⟨lfw _, hrw _, by rw [wI1, if_neg (by omega), i3], by rw [wI1, if_neg (by omega), i5], by rw [wI1, if_neg (by omega), i4], fun o2 ho2 => ?_⟩ (frw _)
          dsimp only at ho2 ⊢
          rcases LC.back wd ce.1 ce.2 p2 (LC.lt wd ho2 (by omega)) ho2 with e | e
          · subst e
            rw [wI_16, up_eq, show lp o2 - 1 + 1 = lp o2 by omega]
            exact ⟨rfl, by omega, by omega⟩
          · by_cases eo : o2 = o
            · subst eo
              rw [wI_16, up_eq, show lp o2 - 1 + 1 = lp o2 by omega]
              exact ⟨rfl, by omega, by omega⟩
            · rw [wI1, if_neg (by omega), up_ne eo]
              exact i20 o2 e
        · conv => whnf
          refine hJ _ _ _ _ ?_
          conv => whnf
          rw [oi_succ]
          rw [if_neg z] at kk
          refine ih (k + 1) lp S n (mv + 1) σ' (by omega) (by omega) (by omega) ?_ ?_ (fun σ2 mv2 h1 h2 h3 => kk σ2 mv2 (by omega) h2 h3)
          · rcases hσ' with rfl | rfl
            · exact ⟨hl, hre, i3, i5, i4, fun o2 ho2 => i20 o2 (ho2.nx (by omega))⟩
            · refine ⟨lfw _, hrw _, by rw [wI1, if_neg (by omega), i3], by rw [wI1, if_neg (by omega), i5], by rw [wI1, if_neg (by omega), i4], fun o2 ho2 => ?_⟩
              have eo : o2 ≠ o := fun e => by
                have := ho2.2.2
                rw [e, p5'] at this
                omega
              rw [wI1, if_neg (by omega)]
              exact i20 o2 (ho2.nx (by omega))
          · rcases hσ' with rfl | rfl
            · exact hc
            · exact frw _
      · rw [if_neg ce] at kk
        exact kk σe mv (by omega) hI hc
  -- all of it
  have main : ∀ (n k : Nat) (lp : Nat → Int) (S : DS) (mv : Nat) (σe : AM), k ≤ s → n ≤ 300 → (k < s → d k 0 ≠ 18) → mv + 4 * n + 4 ≤ 9999 → LI σe i q p s d k lp S n → Ch (mvS i q) ρ σe → GD h0 S.1 → 0 ≤ S.2.1 → S.2.1 < 65536 → runF d s n k lp S = runF d s 300 0 (fun _ => 0) (h0, g, 0) → J 77 [.inr (.inr (19, i)), .inr (.inr (22, q)), .inr (.inr (37, p)), .inl (Int32.ofInt g), .inl (Int32.ofInt (k : Int)), .inl (Int32.ofInt (mv : Int))] [] σe := by
    intro n
    induction n with
    | zero =>
      intro k lp S mv σe hk hn hne hmv hI hc hgd s0 s1 hR
      obtain ⟨hl, hre, i3, i5, i4, i20⟩ := id hI
      rw [runF] at hR
      by_cases ks : k < s
      · rw [decide_eq_true ks] at hR
        refine inn σe k mv ks (by omega) hl (e9 σe hc) (hne ks) ?_
        refine hJ _ _ _ _ ?_
        conv => whnf
        rw [i4]
        refine ⟨fun c => ?_, fun c => ?_⟩ <;> (try simp (disch := omega) only [oi_le, oi_lt, oi_eq, oi_lt0, oi_le0, oi_0lt, oi_0le, oi_eq0, oi_eq1, bI_eq0, bI_ne0, bI_eq1, decide_eq_true_eq, decide_eq_false_iff_not, lc_lt, lc_gt, lc_eq, lc_ge, lc_le, ol_lt, ol_eq, ne_eq, Int.not_lt, Int.not_le, Bool.not_eq_true, Bool.not_eq_false, Decidable.not_not, not_true_eq_false, not_false_eq_true, Bool.true_eq_false, Bool.false_eq_true] at c) <;> (first | (exfalso; omega) | ((fail_if_success with_reducible refine hJ _ _ _ _ ?_); conv => whnf) | skip)
        refine hJ _ _ _ _ ?_
        conv => whnf
        refine ⟨Or.inr rfl, ?_⟩
        conv => whnf
        refine hJ _ _ _ _ ?_
        conv => whnf
        rw [oi_succ]
        have lfw : LF (wI σe 19 i 9 (Int32.ofInt 1)) i q p s d := hl.ch (Ch.wI (Or.inr (Or.inl ⟨rfl, rfl, by omega, by omega⟩)))
        have fe : J 178 [.inr (.inr (19, i)), .inr (.inr (22, q)), .inr (.inr (37, p)), .inl (Int32.ofInt g), .inl (Int32.ofInt (k : Int)), .inl (Int32.ofInt ((mv + 1 : Nat) : Int))] [] (wI σe 19 i 9 (Int32.ofInt 1)) := by
          refine fin _ _ _ (S, 0, true) ?_ (hre.ch (S := fun t i j => t = 19) (Ch.wI rfl) (fun t j a b => by omega)) (by rw [wI1, if_neg (by omega), i4]) (by rw [wI1, if_neg (by omega), i5]) hR
          show Ch (mvS i q) (wI ρ 19 i 9 (Int32.ofInt 1)) (wI σe 19 i 9 (Int32.ofInt 1))
          refine ⟨fun t r j z => ?_, by show σe.2 = ρ.2; exact hc.2⟩
          rw [wI1, wI1]
          by_cases e : t = 19 ∧ r = i ∧ j = 9
          · rw [if_pos e, if_pos e]
          · rw [if_neg e, if_neg e, hc.1 t r j z]
        refine hJ _ _ _ _ ?_
        conv => whnf
        refine ⟨fun c2 => ?_, fun c2 => ?_⟩ <;> (try simp (disch := omega) only [oi_le, oi_lt, oi_eq, oi_lt0, oi_le0, oi_0lt, oi_0le, oi_eq0, oi_eq1, bI_eq0, bI_ne0, bI_eq1, decide_eq_true_eq, decide_eq_false_iff_not, lc_lt, lc_gt, lc_eq, lc_ge, lc_le, ol_lt, ol_eq, ne_eq, Int.not_lt, Int.not_le, Bool.not_eq_true, Bool.not_eq_false, Decidable.not_not, not_true_eq_false, not_false_eq_true, Bool.true_eq_false, Bool.false_eq_true] at c2) <;> (first | (exfalso; omega) | ((fail_if_success with_reducible refine hJ _ _ _ _ ?_); conv => whnf) | skip)
        rw [lfw.2.1]
        refine ⟨p5, ?_⟩
        conv => whnf
        rw [lfw.2.2.2.2.2.1, oi_sub]
        refine s_withinI hC (by omega) (by omega) (by omega) (by omega) (by omega) (by omega) ?_
        conv => whnf
        refine ⟨fun c3 => ?_, fun c3 => ?_⟩ <;> (try simp (disch := omega) only [oi_le, oi_lt, oi_eq, oi_lt0, oi_le0, oi_0lt, oi_0le, oi_eq0, oi_eq1, bI_eq0, bI_ne0, bI_eq1, decide_eq_true_eq, decide_eq_false_iff_not, lc_lt, lc_gt, lc_eq, lc_ge, lc_le, ol_lt, ol_eq, ne_eq, Int.not_lt, Int.not_le, Bool.not_eq_true, Bool.not_eq_false, Decidable.not_not, not_true_eq_false, not_false_eq_true, Bool.true_eq_false, Bool.false_eq_true] at c3) <;> (first | (exfalso; omega) | ((fail_if_success with_reducible refine hJ _ _ _ _ ?_); conv => whnf) | skip)
        rw [wI_16]
        refine ⟨fun c4 => ?_, fun c4 => ?_⟩ <;> (try simp (disch := omega) only [oi_le, oi_lt, oi_eq, oi_lt0, oi_le0, oi_0lt, oi_0le, oi_eq0, oi_eq1, bI_eq0, bI_ne0, bI_eq1, decide_eq_true_eq, decide_eq_false_iff_not, lc_lt, lc_gt, lc_eq, lc_ge, lc_le, ol_lt, ol_eq, ne_eq, Int.not_lt, Int.not_le, Bool.not_eq_true, Bool.not_eq_false, Decidable.not_not, not_true_eq_false, not_false_eq_true, Bool.true_eq_false, Bool.false_eq_true] at c4) <;> (first | (exfalso; omega) | ((fail_if_success with_reducible refine hJ _ _ _ _ ?_); conv => whnf) | skip)
        exact fe
      · rw [decide_eq_false ks] at hR
        exact out σe k mv (by omega) (by omega) (by omega) hl (fin σe _ _ (S, 0, false) hc hre (by rw [i4]) i5 hR)
    | succ n ih =>
      intro k lp S mv σe hk hn hne hmv hI hc hgd s0 s1 hR
      obtain ⟨hl, hre, i3, i5, i4, i20⟩ := id hI
      rw [runF] at hR
      by_cases ks : k < s
      · rw [if_pos ks] at hR
        have ok := (wd.2.2.2.2 k ks).1
        refine inn σe k mv ks (by omega) hl (e9 σe hc) (hne ks) ?_
        refine hJ _ _ _ _ ?_
        conv => whnf
        rw [i4]
        refine ⟨fun c => ?_, fun c => ?_⟩ <;> (try simp (disch := omega) only [oi_le, oi_lt, oi_eq, oi_lt0, oi_le0, oi_0lt, oi_0le, oi_eq0, oi_eq1, bI_eq0, bI_ne0, bI_eq1, decide_eq_true_eq, decide_eq_false_iff_not, lc_lt, lc_gt, lc_eq, lc_ge, lc_le, ol_lt, ol_eq, ne_eq, Int.not_lt, Int.not_le, Bool.not_eq_true, Bool.not_eq_false, Decidable.not_not, not_true_eq_false, not_false_eq_true, Bool.true_eq_false, Bool.false_eq_true] at c) <;> (first | (exfalso; omega) | ((fail_if_success with_reducible refine hJ _ _ _ _ ?_); conv => whnf) | skip)
        rw [i4, oi_add]
        have lfw : LF (wI σe 19 i 4 (Int32.ofInt (300 - ((n + 1 : Nat) : Int) + 1))) i q p s d := hl.ch (Ch.wI (Or.inr (Or.inl ⟨rfl, rfl, by omega, by omega⟩)))
        have hrw : HRep (wI σe 19 i 4 (Int32.ofInt (300 - ((n + 1 : Nat) : Int) + 1))) q S.1 := hre.ch (S := fun t i j => t = 19) (Ch.wI rfl) (fun t j a b => by omega)
        refine s_behindStep hC (S := S) lfw hrw hgd rfl rfl ok (fun z => ?_) ks (hne ks) (by rw [wI1, if_neg (by omega), i3]) s0 s1 (by rw [wI1, if_neg (by omega), i5]) (fun σ2 k1 k2 k3 k4 k5 => ?_)
        · obtain ⟨-, e, y2, y3, y4, -⟩ := wd.op ks (Or.inr z)
          omega
        have hc2 : Ch (mvS i q) ρ σ2 := (hc.tr (Ch.wI (Or.inr (Or.inl ⟨rfl, rfl, Or.inr (Or.inl rfl)⟩)))).tr (k5.mo (fun t r j z => by
          rcases z with z | z | z
          · exact Or.inl z
          · exact Or.inr (Or.inl ⟨z.1, z.2.1, by omega⟩)
          · exact Or.inr (Or.inr z)))
        have lf2 : LF σ2 i q p s d := lfw.ch (k5.mo (fun t r j z => by
          rcases z with z | z | z
          · exact Or.inl z
          · exact Or.inr (Or.inl ⟨z.1, z.2.1, by omega, by omega⟩)
          · exact Or.inr (Or.inr z)))
        have i42 : σ2.1 19 i 4 = Int32.ofInt (300 - (n : Int)) := by
          rw [k5.1 _ _ _ (by unfold HS; omega), wI_16, show 300 - ((n + 1 : Nat) : Int) + 1 = 300 - (n : Int) by omega]
        have dg := doF_GD (f := d k) hgd rfl rfl ok s0 s1
        conv => whnf
        refine hJ _ _ _ _ ?_
        conv => whnf
        rw [oi_succ]
        by_cases h19 : d k 0 = 19
        · rw [if_pos h19] at hR
          rw [if_pos h19]
          have eD : doF (d k) S = S := doF_o (by omega)
          rw [eD] at k1 k3
          exact out σ2 s (mv + 1) (by omega) (by omega) (by omega) lf2 (fin σ2 _ _ (S, n, false) hc2 k1 i42 k3 hR)
        · rw [if_neg h19] at hR
          rw [if_neg h19]
          have nle := nxtF_le wd ks (doF (d k) S).1
          have eo := endsF_ok wd 3 (nxtF d k (doF (d k) S).1) (lpF d k lp) nle (wd.2.2.2.1 _ nle)
          refine endsC 3 (nxtF d k (doF (d k) S).1) (lpF d k lp) (doF (d k) S) n (mv + 1) σ2 nle (wd.2.2.2.1 _ nle) (by omega) ⟨lf2, k1, k2, k3, i42, fun o ho => ?_⟩ hc2 (fun σ3 mv3 y1 y2 y3 => ?_)
          · rcases LC.step wd ks ho with ⟨e1, e2⟩ | ⟨e1, e2⟩
            · subst e1
              have b17 := ok.c17 e2
              rw [k4, if_pos ⟨e2, rfl⟩, show lpF d o lp = up lp o (d o 1 - 1) from if_pos e2, up_eq, show d o 1 - 1 + 1 = d o 1 by omega]
              exact ⟨rfl, by omega, by omega⟩
            · rw [k4, if_neg (fun z => e1 z.2), wI1, if_neg (by omega)]
              have elp : lpF d k lp o = lp o := by
                unfold lpF
                split
                · exact up_ne e1
                · rfl
              rw [elp]
              exact i20 o e2
          · exact ih _ _ (doF (d k) S) mv3 σ3 eo.1 (by omega) eo.2 (by omega) y2 y3 dg.1 dg.2.1 dg.2.2.1 hR
      · rw [if_neg ks] at hR
        exact out σe k mv (by omega) (by omega) (by omega) hl (fin σe _ _ (S, n + 1, false) hc hre (by rw [i4]) i5 hR)
  refine main 300 0 (fun _ => 0) (h0, g, 0) 0 ρ (by omega) (by omega) (fun hs h18 => ?_) (by omega) ⟨hl0, hr0, by rw [r1 _ _ _ (by omega), f3], by rw [r1 _ _ _ (by omega), f5], by rw [r1 _ _ _ (by omega), f4]; rfl, fun o ho => by have := ho.2.1; omega⟩ Ch.rf ⟨hwp, h59, rfl, rfl, rfl, fun _ => rfl⟩ g0 g1 rfl
  have := (wd.en hs h18).1
  have := wd.2.1
  omega
