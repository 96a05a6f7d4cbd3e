/-! sets that grow -/
def rnd (g : Nat → Nat) : Nat → Nat → Nat
  | 0, s => s
  | i + 1, s => if (rnd g i s).testBit i then rnd g i s ||| g i else rnd g i s
def itr (f : Nat → Nat) : Nat → Nat → Nat
  | 0, s => s
  | k + 1, s => f (itr f k s)
theorem rnd_up (g : Nat → Nat) (s b : Nat) : ∀ i, (rnd g i s).testBit b = true → (rnd g (i + 1) s).testBit b = true := by
  intro i h
  rw [rnd]
  split
  · rw [Nat.testBit_or, h]; rfl
  · exact h
theorem rnd_le (g : Nat → Nat) (s b : Nat) {i : Nat} : ∀ k, (rnd g i s).testBit b = true → (rnd g (i + k) s).testBit b = true
  | 0, h => h
  | k + 1, h => rnd_up g s b (i + k) (rnd_le g s b k h)
theorem rnd_lt {g : Nat → Nat} {s : Nat} : ∀ {i : Nat}, (∀ k, k < i → g k < 64) → s < 64 → rnd g i s < 64
  | 0, _, hs => hs
  | i + 1, hg, hs => by
    have ih := rnd_lt (i := i) (fun k hk => hg k (by omega)) hs
    rw [rnd]
    split
    · exact Nat.or_lt_two_pow (n := 6) ih (hg i (by omega))
    · exact ih
theorem or_sub {a b : Nat} (h : ∀ k, b.testBit k = true → a.testBit k = true) : a ||| b = a := by
  apply Nat.eq_of_testBit_eq
  intro k
  rw [Nat.testBit_or]
  cases hb : b.testBit k with
  | false => simp
  | true => simp [h k hb]
/-- once its lower part stays, all stays -/
theorem rnd_stay {g : Nat → Nat} {c s : Nat} (hl : ∀ b, b < c → (rnd g c s).testBit b = true → s.testBit b = true) : rnd g c (rnd g c s) = rnd g c s := by
  have key : ∀ i, i ≤ c → rnd g i (rnd g c s) = rnd g c s := by
    intro i
    induction i with
    | zero => intro _; rfl
    | succ i ih =>
      intro hi
      rw [rnd, ih (by omega)]
      split
      · rename_i hb
        refine or_sub (fun k hk => ?_)
        have h0 := hl i (by omega) hb
        have h1 : (rnd g i s).testBit i = true := by
          have := rnd_le g s i (i := 0) i h0
          rw [Nat.zero_add] at this
          exact this
        have h2 : (rnd g (i + 1) s).testBit k = true := by
          rw [rnd, if_pos h1, Nat.testBit_or, hk, Bool.or_true]
        have := rnd_le g s k (i := i + 1) (c - (i + 1)) h2
        rw [show i + 1 + (c - (i + 1)) = c by omega] at this
        exact this
      · rfl
  exact key c (Nat.le_refl c)
def lowN (s : Nat) : Nat → Nat
  | 0 => 0
  | i + 1 => lowN s i + (if s.testBit i then 1 else 0)
theorem lowN_le (s : Nat) : ∀ i, lowN s i ≤ i
  | 0 => Nat.le_refl 0
  | i + 1 => by
    have := lowN_le s i
    rw [lowN]
    split <;> omega
theorem lowN_mo {s s' : Nat} : ∀ {i : Nat}, (∀ b, b < i → s.testBit b = true → s'.testBit b = true) → lowN s i ≤ lowN s' i ∧ (lowN s i = lowN s' i → ∀ b, b < i → s'.testBit b = true → s.testBit b = true)
  | 0, _ => ⟨Nat.le_refl _, fun _ b hb => by omega⟩
  | i + 1, h => by
    obtain ⟨h1, h2⟩ := lowN_mo (i := i) (fun b hb => h b (by omega))
    have h3 := h i (by omega)
    rw [lowN, lowN]
    cases hs : s.testBit i with
    | true =>
      rw [hs] at h3
      rw [h3 rfl]
      refine ⟨by simp; omega, fun e b hb hb2 => ?_⟩
      by_cases hbi : b = i
      · subst hbi; exact hs
      · exact h2 (by simp at e; omega) b (by omega) hb2
    | false =>
      cases hs' : s'.testBit i with
      | true => exact ⟨by simp; omega, fun e => by simp at e; omega⟩
      | false =>
        refine ⟨by simp; omega, fun e b hb hb2 => ?_⟩
        by_cases hbi : b = i
        · subst hbi; rw [hs'] at hb2; cases hb2
        · exact h2 (by simp at e; omega) b (by omega) hb2
theorem lowN_0 {s : Nat} : ∀ {i : Nat}, lowN s i = 0 → ∀ b, b < i → s.testBit b = false
  | 0, _, b, hb => by omega
  | i + 1, h, b, hb => by
    rw [lowN] at h
    cases hs : s.testBit i with
    | true => rw [hs] at h; simp at h
    | false =>
      by_cases hbi : b = i
      · subst hbi; exact hs
      · exact lowN_0 (i := i) (by rw [hs] at h; simpa using h) b (by omega)
theorem itr_fix {f : Nat → Nat} {k s : Nat} (h : f (itr f k s) = itr f k s) : ∀ q, itr f (k + q) s = itr f k s
  | 0 => rfl
  | q + 1 => by
    show f (itr f (k + q) s) = _
    rw [itr_fix h q, h]
theorem reach_eq (g : Nat → Nat) (s : Nat) {c : Nat} (hc : c ≤ 6) : itr (rnd g c) c s = itr (rnd g c) 6 s := by
  have key : ∀ k, rnd g c (itr (rnd g c) k s) = itr (rnd g c) k s ∨ k + 1 ≤ lowN (itr (rnd g c) k s) c := by
    intro k
    induction k with
    | zero =>
      by_cases h0 : lowN s c = 0
      · left
        have hz := lowN_0 h0
        have : ∀ i, i ≤ c → rnd g i s = s := by
          intro i
          induction i with
          | zero => intro _; rfl
          | succ i ih =>
            intro hi
            rw [rnd, ih (by omega), if_neg (by rw [hz i (by omega)]; decide)]
        exact this c (Nat.le_refl c)
      · right
        show 0 + 1 ≤ lowN s c
        omega
    | succ k ih =>
      show rnd g c (rnd g c (itr (rnd g c) k s)) = rnd g c (itr (rnd g c) k s) ∨ _
      rcases ih with ih | ih
      · left; rw [ih, ih]
      · have mo := lowN_mo (s := itr (rnd g c) k s) (s' := rnd g c (itr (rnd g c) k s)) (i := c) (fun b _ hb => by
          have := rnd_le g (itr (rnd g c) k s) b (i := 0) c hb
          rw [Nat.zero_add] at this
          exact this)
        by_cases e : lowN (itr (rnd g c) k s) c = lowN (rnd g c (itr (rnd g c) k s)) c
        · left
          exact rnd_stay (mo.2 e)
        · right
          show k + 1 + 1 ≤ lowN (rnd g c (itr (rnd g c) k s)) c
          omega
  have fx : rnd g c (itr (rnd g c) c s) = itr (rnd g c) c s := by
    rcases key c with h | h
    · exact h
    · have := lowN_le (itr (rnd g c) c s) c
      omega
  have := itr_fix fx (6 - c)
  rw [show c + (6 - c) = 6 by omega] at this
  exact this.symm
/-- what may follow -/
def nxS (h : Nat → Int) (t : Nat) : Nat := (h (13 + 2 * t)).toNat
theorem nxS_lt {h : Nat → Int} (hw : WF h) {t : Nat} (ht : (t : Int) < h 0) : nxS h t < 64 ∧ h (13 + 2 * t) = ((nxS h t : Nat) : Int) := by
  have := hw.2.1 t ht
  unfold nxS
  omega
def reachS (h : Nat → Int) (t : Nat) : Nat := itr (rnd (nxS h) (h 0).toNat) 6 (nxS h t)
theorem itr_lt {h : Nat → Int} (hw : WF h) {s : Nat} (hs : s < 64) : ∀ k, itr (rnd (nxS h) (h 0).toNat) k s < 64
  | 0 => hs
  | k + 1 => rnd_lt (fun i hi => (nxS_lt hw (by have := hw.1; omega)).1) (itr_lt hw hs k)
theorem hr_nx {σ : AM} {n : Nat} {h : Nat → Int} (hr : HRep σ n h) (hw : WF h) {t : Nat} (ht : (t : Int) < h 0) : σ.1 26 n t = Int32.ofInt (nxS h t : Nat) := by
  obtain ⟨-, -, -, -, -, -, -, -, -, -, -, et, -⟩ := hr
  rw [(et t ht).2, (nxS_lt hw ht).2]
theorem s_behind {CALL : CT} (hC : RuleAll CALL) {r : Nat} {σ : AM} {K : AV → AM → Prop} {n t : Nat} {h0 : Nat → Int} (hr : HRep σ n h0) (hw : WF h0) (ht : (t : Int) < h0 0) (h : K (.inl (Int32.ofInt (reachS h0 t))) σ) : CALL (r + 2) n_Talk_behind [.inr (.inr (23, n)), .inl (Int32.ofInt t)] σ K := by
  refine r_Talk_behind hC (fun J hJ => ?_)
  refine hJ _ _ _ _ ?_
  conv => whnf
  have b := hw.1
  unfold reachS at h
  rw [← reach_eq _ _ (by omega)] at h
  refine ⟨(oi_in (by omega) (by omega)).mpr ⟨by omega, by omega⟩, ?_⟩
  conv => whnf
  rw [oi_nat (by omega) (by omega), Int.toNat_natCast, hr_nx hr hw ht]
  have inner : ∀ (q i s : Nat) (x : Int32), s < 64 → i + q = (h0 0).toNat → J 54 [.inr (.inr (23, n)), .inl (Int32.ofInt t), .inl (Int32.ofInt (rnd (nxS h0) (h0 0).toNat s)), .inl x, .inl (Int32.ofInt ((h0 0).toNat : Nat))] [] σ → J 20 [.inr (.inr (23, n)), .inl (Int32.ofInt t), .inl (Int32.ofInt (rnd (nxS h0) i s)), .inl x, .inl (Int32.ofInt (i : Int))] [] σ := by
    intro q
    induction q with
    | zero =>
      intro i s x hs hi hk
      have : i = (h0 0).toNat := by omega
      subst this
      refine hJ _ _ _ _ ?_
      conv => whnf
      rw [hr.1]
      refine ⟨fun c => ?_, fun c => ?_⟩ <;> (try simp (disch := omega) only [oi_le, oi_lt, oi_eq, oi_lt0, oi_le0, oi_0lt, oi_0le, oi_eq0, oi_eq1, bI_eq0, bI_ne0, bI_eq1, decide_eq_true_eq, decide_eq_false_iff_not, lc_lt, lc_gt, lc_eq, lc_ge, lc_le, ol_lt, ol_eq, ne_eq, Int.not_lt, Int.not_le, Bool.not_eq_true, Bool.not_eq_false, Decidable.not_not, not_true_eq_false, not_false_eq_true, Bool.true_eq_false, Bool.false_eq_true] at c) <;> (first | (exfalso; omega) | ((fail_if_success with_reducible refine hJ _ _ _ _ ?_); conv => whnf) | skip)
      exact hk
    | succ q ih =>
      intro i s x hs hi hk
      have hti : (i : Int) < h0 0 := by omega
      have hl : rnd (nxS h0) i s < 64 := rnd_lt (fun k hk => (nxS_lt hw (by omega)).1) hs
      have nx := ih (i + 1) s x hs (by omega) hk
      rw [rnd] at nx
      refine hJ _ _ _ _ ?_
      conv => whnf
      rw [hr.1]
      refine ⟨fun c => ?_, fun c => ?_⟩ <;> (try simp (disch := omega) only [oi_le, oi_lt, oi_eq, oi_lt0, oi_le0, oi_0lt, oi_0le, oi_eq0, oi_eq1, bI_eq0, bI_ne0, bI_eq1, decide_eq_true_eq, decide_eq_false_iff_not, lc_lt, lc_gt, lc_eq, lc_ge, lc_le, ol_lt, ol_eq, ne_eq, Int.not_lt, Int.not_le, Bool.not_eq_true, Bool.not_eq_false, Decidable.not_not, not_true_eq_false, not_false_eq_true, Bool.true_eq_false, Bool.false_eq_true] at c) <;> (first | (exfalso; omega) | ((with_reducible refine hJ _ _ _ _ ?_); conv => whnf) | (conv => whnf))
      refine s_has hC (by omega) (by omega) ?_
      conv => whnf
      refine ⟨fun c2 => ?_, fun c2 => ?_⟩ <;> (try simp (disch := omega) only [oi_le, oi_lt, oi_eq, oi_lt0, oi_le0, oi_0lt, oi_0le, oi_eq0, oi_eq1, bI_eq0, bI_ne0, bI_eq1, decide_eq_true_eq, decide_eq_false_iff_not, lc_lt, lc_gt, lc_eq, lc_ge, lc_le, ol_lt, ol_eq, ne_eq, Int.not_lt, Int.not_le, Bool.not_eq_true, Bool.not_eq_false, Decidable.not_not, not_true_eq_false, not_false_eq_true, Bool.true_eq_false, Bool.false_eq_true] at c2) <;> (first | (exfalso; omega) | ((with_reducible refine hJ _ _ _ _ ?_); conv => whnf) | (conv => whnf))
      · rw [oi_succ]
        rw [if_neg (by simp [c2])] at nx
        exact nx
      · refine ⟨(oi_in (by omega) (by omega)).mpr ⟨by omega, by omega⟩, ?_⟩
        conv => whnf
        rw [oi_nat (by omega) (by omega), Int.toNat_natCast, hr_nx hr hw hti]
        refine hJ _ _ _ _ ?_
        conv => whnf
        rw [oi_or, oi_succ]
        rw [if_pos c2] at nx
        exact nx
  have outer : ∀ (q k : Nat) (x : AV), k + q = (h0 0).toNat → J 9 [.inr (.inr (23, n)), .inl (Int32.ofInt t), .inl (Int32.ofInt (itr (rnd (nxS h0) (h0 0).toNat) k (nxS h0 t))), .inl (Int32.ofInt (k : Int)), x] [] σ := by
    intro q
    induction q with
    | zero =>
      intro k x hi
      have : k = (h0 0).toNat := by omega
      subst this
      refine hJ _ _ _ _ ?_
      conv => whnf
      rw [hr.1]
      refine ⟨fun c => ?_, fun c => ?_⟩ <;> (try simp (disch := omega) only [oi_le, oi_lt, oi_eq, oi_lt0, oi_le0, oi_0lt, oi_0le, oi_eq0, oi_eq1, bI_eq0, bI_ne0, bI_eq1, decide_eq_true_eq, decide_eq_false_iff_not, lc_lt, lc_gt, lc_eq, lc_ge, lc_le, ol_lt, ol_eq, ne_eq, Int.not_lt, Int.not_le, Bool.not_eq_true, Bool.not_eq_false, Decidable.not_not, not_true_eq_false, not_false_eq_true, Bool.true_eq_false, Bool.false_eq_true] at c) <;> (first | (exfalso; omega) | ((with_reducible refine hJ _ _ _ _ ?_); conv => whnf) | (conv => whnf))
      exact h
    | succ q ih =>
      intro k x hi
      refine hJ _ _ _ _ ?_
      conv => whnf
      rw [hr.1]
      refine ⟨fun c => ?_, fun c => ?_⟩ <;> (try simp (disch := omega) only [oi_le, oi_lt, oi_eq, oi_lt0, oi_le0, oi_0lt, oi_0le, oi_eq0, oi_eq1, bI_eq0, bI_ne0, bI_eq1, decide_eq_true_eq, decide_eq_false_iff_not, lc_lt, lc_gt, lc_eq, lc_ge, lc_le, ol_lt, ol_eq, ne_eq, Int.not_lt, Int.not_le, Bool.not_eq_true, Bool.not_eq_false, Decidable.not_not, not_true_eq_false, not_false_eq_true, Bool.true_eq_false, Bool.false_eq_true] at c) <;> (first | (exfalso; omega) | ((with_reducible refine hJ _ _ _ _ ?_); conv => whnf) | (conv => whnf))
      refine inner (h0 0).toNat 0 _ _ (itr_lt hw (nxS_lt hw ht).1 k) (by omega) ?_
      refine hJ _ _ _ _ ?_
      conv => whnf
      rw [oi_succ]
      exact ih (k + 1) _ (by omega)
  exact outer (h0 0).toNat 0 _ (by omega)
theorem op_reach {CALL : CT} (hC : RuleAll CALL) {r : Nat} {σ : AM} {K : AV → AV → AM → Prop} {n : Nat} {h0 : Nat → Int} (hn : NH σ n h0) {z : Int} (z1 : -2147483648 ≤ z) (z2 : z < 2147483648) (h : ∀ v σ2, SC σ σ2 → σ2.1 1 0 16 = σ2.1 46 0 2 → K v v σ2) : CALL (r + 20) n_x_reach [.inr (.inr (1, 0)), .inl (Int32.ofInt z)] σ (fun v σ1 => CALL (r + 20) n_m_reach [.inr (.inr (46, 0)), .inl (Int32.ofInt z)] σ1 (fun v' σ2 => K v v' σ2)) := by
  obtain ⟨n45, hnn, hr, hm, ⟨hw, hw67⟩, h59⟩ := id hn
  have b := hw.1
  obtain ⟨q0, q1, q2, q3, q4, q5, q6, q7, q8, q9, qa, qt, qm, qe⟩ := id hr
  refine r_x_reach hC (fun J hJ => ?_)
  refine hJ _ _ _ _ ?_
  conv => whnf
  refine s_isTopic hC hn z1 z2 ?_
  conv => whnf
  refine ⟨fun c => ?_, fun c => ?_⟩ <;> (try simp (disch := omega) only [oi_le, oi_lt, oi_eq, oi_lt0, oi_le0, oi_0lt, oi_0le, oi_eq0, oi_eq1, bI_eq0, bI_ne0, bI_eq1, decide_eq_true_eq, decide_eq_false_iff_not, lc_lt, lc_gt, lc_eq, lc_ge, lc_le, ol_lt, ol_eq, ne_eq, Int.not_lt, Int.not_le, Bool.not_eq_true, Bool.not_eq_false, Decidable.not_not, not_true_eq_false, not_false_eq_true, Bool.true_eq_false, Bool.false_eq_true] at c) <;> (first | (exfalso; omega) | ((with_reducible refine hJ _ _ _ _ ?_); conv => whnf) | (conv => whnf))
  · refine s_none hC ?_
    conv => whnf
    refine hJ _ _ _ _ ?_
    conv => whnf
    refine r_m_reach hC (fun J hJ => ?_)
    refine hJ _ _ _ _ ?_
    conv => whnf
    rw [oi_l (by omega) (by omega)]
    refine s_m_isTopic hC hm.c hw (by omega) (by omega) ?_
    conv => whnf
    refine ⟨fun c2 => ?_, fun c2 => ?_⟩ <;> (try simp (disch := omega) only [oi_le, oi_lt, oi_eq, oi_lt0, oi_le0, oi_0lt, oi_0le, oi_eq0, oi_eq1, bI_eq0, bI_ne0, bI_eq1, decide_eq_true_eq, decide_eq_false_iff_not, lc_lt, lc_gt, lc_eq, lc_ge, lc_le, ol_lt, ol_eq, ne_eq, Int.not_lt, Int.not_le, Bool.not_eq_true, Bool.not_eq_false, Decidable.not_not, not_true_eq_false, not_false_eq_true, Bool.true_eq_false, Bool.false_eq_true] at c2) <;> (first | (exfalso; omega) | ((with_reducible refine hJ _ _ _ _ ?_); conv => whnf) | (conv => whnf))
    refine s_m_refuse hC ?_
    conv => whnf
    exact h _ _ done2.1 done2.2
  · rw [hnn]
    refine ⟨by omega, ?_⟩
    conv => whnf
    obtain ⟨t, rfl⟩ : ∃ t : Nat, z = (t : Int) := ⟨z.toNat, by omega⟩
    have ht : (t : Int) < h0 0 := c.2
    refine s_behind hC hr hw ht ?_
    conv => whnf
    refine s_give hC ?_
    conv => whnf
    refine hJ _ _ _ _ ?_
    conv => whnf
    refine r_m_reach hC (fun J hJ => ?_)
    refine hJ _ _ _ _ ?_
    conv => whnf
    rw [oi_l (by omega) (by omega)]
    refine s_m_isTopic hC hm.c hw (by omega) (by omega) ?_
    conv => whnf
    refine ⟨fun c2 => ?_, fun c2 => ?_⟩ <;> (try simp (disch := omega) only [oi_le, oi_lt, oi_eq, oi_lt0, oi_le0, oi_0lt, oi_0le, oi_eq0, oi_eq1, bI_eq0, bI_ne0, bI_eq1, decide_eq_true_eq, decide_eq_false_iff_not, lc_lt, lc_gt, lc_eq, lc_ge, lc_le, ol_lt, ol_eq, ne_eq, Int.not_lt, Int.not_le, Bool.not_eq_true, Bool.not_eq_false, Decidable.not_not, not_true_eq_false, not_false_eq_true, Bool.true_eq_false, Bool.false_eq_true] at c2) <;> (first | (exfalso; omega) | ((with_reducible refine hJ _ _ _ _ ?_); conv => whnf) | (conv => whnf))
    refine s_m_nextOf hC hm.c (by omega) ?_
    conv => whnf
    rw [(nxS_lt hw ht).2]
    have inner : ∀ (q i s : Nat) (x : Int32), s < 64 → i + q = (h0 0).toNat → J 72 [.inr (.inr (46, 0)), .inl (Int32.ofInt t), .inl (Int32.ofInt (rnd (nxS h0) (h0 0).toNat s)), .inl x, .inl (Int32.ofInt ((h0 0).toNat : Nat))] [] (wI σ 1 0 16 (Int32.ofInt 0)) → J 32 [.inr (.inr (46, 0)), .inl (Int32.ofInt t), .inl (Int32.ofInt (rnd (nxS h0) i s)), .inl x, .inl (Int32.ofInt (i : Int))] [] (wI σ 1 0 16 (Int32.ofInt 0)) := by
      intro q
      induction q with
      | zero =>
        intro i s x hs hi hk
        have : i = (h0 0).toNat := by omega
        subst this
        refine hJ _ _ _ _ ?_
        conv => whnf
        refine ⟨(oi_in (by omega) (by omega)).mpr ⟨by omega, by omega⟩, ?_⟩
        conv => whnf
        rw [show (Int32.ofInt 0).toNatClampNeg = 0 from rfl, hm.c 0 (by omega)]
        refine ⟨fun c => ?_, fun c => ?_⟩ <;> (try simp (disch := omega) only [oi_le, oi_lt, oi_eq, oi_lt0, oi_le0, oi_0lt, oi_0le, oi_eq0, oi_eq1, bI_eq0, bI_ne0, bI_eq1, decide_eq_true_eq, decide_eq_false_iff_not, lc_lt, lc_gt, lc_eq, lc_ge, lc_le, ol_lt, ol_eq, ne_eq, Int.not_lt, Int.not_le, Bool.not_eq_true, Bool.not_eq_false, Decidable.not_not, not_true_eq_false, not_false_eq_true, Bool.true_eq_false, Bool.false_eq_true] at c) <;> (first | (exfalso; omega) | ((fail_if_success with_reducible refine hJ _ _ _ _ ?_); conv => whnf) | skip)
        exact hk
      | succ q ih =>
        intro i s x hs hi hk
        have hti : (i : Int) < h0 0 := by omega
        have hl : rnd (nxS h0) i s < 64 := rnd_lt (fun k hk => (nxS_lt hw (by omega)).1) hs
        have nx := ih (i + 1) s x hs (by omega) hk
        rw [rnd] at nx
        refine hJ _ _ _ _ ?_
        conv => whnf
        refine ⟨(oi_in (by omega) (by omega)).mpr ⟨by omega, by omega⟩, ?_⟩
        conv => whnf
        rw [show (Int32.ofInt 0).toNatClampNeg = 0 from rfl, hm.c 0 (by omega)]
        refine ⟨fun c => ?_, fun c => ?_⟩ <;> (try simp (disch := omega) only [oi_le, oi_lt, oi_eq, oi_lt0, oi_le0, oi_0lt, oi_0le, oi_eq0, oi_eq1, bI_eq0, bI_ne0, bI_eq1, decide_eq_true_eq, decide_eq_false_iff_not, lc_lt, lc_gt, lc_eq, lc_ge, lc_le, ol_lt, ol_eq, ne_eq, Int.not_lt, Int.not_le, Bool.not_eq_true, Bool.not_eq_false, Decidable.not_not, not_true_eq_false, not_false_eq_true, Bool.true_eq_false, Bool.false_eq_true] at c) <;> (first | (exfalso; omega) | ((with_reducible refine hJ _ _ _ _ ?_); conv => whnf) | (conv => whnf))
        refine s_m_isIn hC (by omega) (by omega) ?_
        conv => whnf
        refine ⟨fun c2 => ?_, fun c2 => ?_⟩ <;> (try simp (disch := omega) only [oi_le, oi_lt, oi_eq, oi_lt0, oi_le0, oi_0lt, oi_0le, oi_eq0, oi_eq1, bI_eq0, bI_ne0, bI_eq1, decide_eq_true_eq, decide_eq_false_iff_not, lc_lt, lc_gt, lc_eq, lc_ge, lc_le, ol_lt, ol_eq, ne_eq, Int.not_lt, Int.not_le, Bool.not_eq_true, Bool.not_eq_false, Decidable.not_not, not_true_eq_false, not_false_eq_true, Bool.true_eq_false, Bool.false_eq_true] at c2) <;> (first | (exfalso; omega) | ((with_reducible refine hJ _ _ _ _ ?_); conv => whnf) | (conv => whnf))
        · refine hJ _ _ _ _ ?_
          conv => whnf
          rw [oi_succ, ze_or]
          rw [if_neg (by simp [c2])] at nx
          exact nx
        · refine s_m_nextOf hC hm.c (by omega) ?_
          conv => whnf
          rw [(nxS_lt hw hti).2]
          refine hJ _ _ _ _ ?_
          conv => whnf
          rw [oi_or, oi_succ]
          rw [if_pos c2] at nx
          exact nx
    have outer : ∀ (q k : Nat) (x : AV), k + q = 6 → J 23 [.inr (.inr (46, 0)), .inl (Int32.ofInt t), .inl (Int32.ofInt (itr (rnd (nxS h0) (h0 0).toNat) k (nxS h0 t))), .inl (Int32.ofInt (k : Int)), x] [] (wI σ 1 0 16 (Int32.ofInt 0)) := by
      intro q
      induction q with
      | zero =>
        intro k x hi
        have : k = 6 := by omega
        subst this
        refine hJ _ _ _ _ ?_
        conv => whnf
        refine ⟨fun c => ?_, fun c => ?_⟩ <;> (try simp (disch := omega) only [oi_le, oi_lt, oi_eq, oi_lt0, oi_le0, oi_0lt, oi_0le, oi_eq0, oi_eq1, bI_eq0, bI_ne0, bI_eq1, decide_eq_true_eq, decide_eq_false_iff_not, lc_lt, lc_gt, lc_eq, lc_ge, lc_le, ol_lt, ol_eq, ne_eq, Int.not_lt, Int.not_le, Bool.not_eq_true, Bool.not_eq_false, Decidable.not_not, not_true_eq_false, not_false_eq_true, Bool.true_eq_false, Bool.false_eq_true] at c) <;> (first | (exfalso; omega) | ((with_reducible refine hJ _ _ _ _ ?_); conv => whnf) | (conv => whnf))
        refine s_m_gives hC ?_
        conv => whnf
        unfold reachS
        exact h _ _ done2.1 done2.2
      | succ q ih =>
        intro k x hi
        refine hJ _ _ _ _ ?_
        conv => whnf
        refine ⟨fun c => ?_, fun c => ?_⟩ <;> (try simp (disch := omega) only [oi_le, oi_lt, oi_eq, oi_lt0, oi_le0, oi_0lt, oi_0le, oi_eq0, oi_eq1, bI_eq0, bI_ne0, bI_eq1, decide_eq_true_eq, decide_eq_false_iff_not, lc_lt, lc_gt, lc_eq, lc_ge, lc_le, ol_lt, ol_eq, ne_eq, Int.not_lt, Int.not_le, Bool.not_eq_true, Bool.not_eq_false, Decidable.not_not, not_true_eq_false, not_false_eq_true, Bool.true_eq_false, Bool.false_eq_true] at c) <;> (first | (exfalso; omega) | ((with_reducible refine hJ _ _ _ _ ?_); conv => whnf) | (conv => whnf))
        refine inner (h0 0).toNat 0 _ _ (itr_lt hw (nxS_lt hw ht).1 k) (by omega) ?_
        refine hJ _ _ _ _ ?_
        conv => whnf
        rw [oi_succ]
        exact ih (k + 1) _ (by omega)
    exact outer 6 0 _ (by omega)
