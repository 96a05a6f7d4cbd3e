def earS (h : Nat → Int) (a b : Nat) : Bool := (h (30 + 7 * a)).toNat.testBit b
theorem s_leastOf {CALL : CT} (hC : RuleAll CALL) {r : Nat} {σ : AM} {K : AV → AM → Prop} {s : Nat} (hs : s < 128) (h : K (.inl (Int32.ofInt (opI (lst s)))) σ) : CALL (r + 2) n_x_leastOf [.inl (Int32.ofInt s)] σ K := by
  refine r_x_leastOf hC (fun J hJ => ?_)
  refine hJ _ _ _ _ ?_
  conv => whnf
  generalize hW : lst s = W at h
  have loop : ∀ (q i : Nat), i + q = 7 → W = firstF (fun k => s.testBit k) q i → J 2 [.inl (Int32.ofInt (s : Int)), .inl (Int32.ofInt (i : Int))] [] σ := by
    intro q
    induction q with
    | zero =>
      intro i hi g
      refine hJ _ _ _ _ ?_
      conv => whnf
      refine ⟨fun c => ?_, fun c => ?_⟩ <;> (try simp (disch := omega) only [oi_le, oi_lt, oi_eq, oi_lt0, oi_le0, oi_0lt, oi_0le, oi_eq0, oi_eq1, bI_eq0, bI_ne0, bI_eq1, decide_eq_true_eq, decide_eq_false_iff_not, lc_lt, lc_gt, lc_eq, lc_ge, lc_le, ol_lt, ol_eq, ne_eq, Int.not_lt, Int.not_le, Bool.not_eq_true, Bool.not_eq_false, Decidable.not_not, not_true_eq_false, not_false_eq_true, Bool.true_eq_false, Bool.false_eq_true] at c) <;> (first | (exfalso; omega) | ((with_reducible refine hJ _ _ _ _ ?_); conv => whnf) | (conv => whnf))
      rw [g] at h
      exact h
    | succ q ih =>
      intro i hi g
      rw [firstF] at g
      refine hJ _ _ _ _ ?_
      conv => whnf
      refine ⟨fun c => ?_, fun c => ?_⟩ <;> (try simp (disch := omega) only [oi_le, oi_lt, oi_eq, oi_lt0, oi_le0, oi_0lt, oi_0le, oi_eq0, oi_eq1, bI_eq0, bI_ne0, bI_eq1, decide_eq_true_eq, decide_eq_false_iff_not, lc_lt, lc_gt, lc_eq, lc_ge, lc_le, ol_lt, ol_eq, ne_eq, Int.not_lt, Int.not_le, Bool.not_eq_true, Bool.not_eq_false, Decidable.not_not, not_true_eq_false, not_false_eq_true, Bool.true_eq_false, Bool.false_eq_true] at c) <;> (first | (exfalso; omega) | ((with_reducible refine hJ _ _ _ _ ?_); conv => whnf) | (conv => whnf))
      refine s_has hC (by omega) (by omega) ?_
      conv => whnf
      refine ⟨fun c2 => ?_, fun c2 => ?_⟩ <;> (try simp (disch := omega) only [oi_le, oi_lt, oi_eq, oi_lt0, oi_le0, oi_0lt, oi_0le, oi_eq0, oi_eq1, bI_eq0, bI_ne0, bI_eq1, decide_eq_true_eq, decide_eq_false_iff_not, lc_lt, lc_gt, lc_eq, lc_ge, lc_le, ol_lt, ol_eq, ne_eq, Int.not_lt, Int.not_le, Bool.not_eq_true, Bool.not_eq_false, Decidable.not_not, not_true_eq_false, not_false_eq_true, Bool.true_eq_false, Bool.false_eq_true] at c2) <;> (first | (exfalso; omega) | ((with_reducible refine hJ _ _ _ _ ?_); conv => whnf) | (conv => whnf))
      · rw [oi_succ]
        rw [if_neg (by rw [c2]; decide)] at g
        exact ih (i + 1) (by omega) g
      · rw [if_pos c2] at g
        rw [g] at h
        exact h
  exact loop 7 0 (by omega) hW.symm
theorem mM_bd (E : Nat → Nat → Bool) : ∀ (f s : Nat), s < 128 → mF E f s ≤ f
  | 0, s, _ => Nat.le_refl 0
  | f + 1, s, hs => by
    rw [mF]
    cases hl : lst s with
    | none => exact Nat.zero_le _
    | some a =>
      have ha := lst_some.mp hl
      have h1 := mM_bd E f (rem s a) (rem_lt hs ha.1)
      have h2 : mxN (pS E (mF E f) s a) 7 ≤ f + 1 := mxN_bd (fun i hi => by
        unfold pS
        split
        · have := mM_bd E f (rem (rem s a) i) (rem_lt (rem_lt hs ha.1) hi)
          omega
        · omega)
      dsimp only
      omega
theorem s_pairs1 {CALL : CT} (hC : RuleAll CALL) {n r : Nat} {h0 : Nat → Int} {σ : AM} {K : AV → AM → Prop} {s : Nat} (hr : HRep σ n h0) (hw : WF h0) (hs : s < 2 ^ (h0 1).toNat) (rec : ∀ (s' : Nat) (K' : AV → AM → Prop), s' < s → s' < 2 ^ (h0 1).toNat → cnt s' < cnt s → K' (.inl (Int32.ofInt (mM (earS h0) s' : Nat))) σ → CALL (r + 2) n_Monks_pairs [.inr (.inr (34, n)), .inl (Int32.ofInt (s' : Int))] σ K') (h : K (.inl (Int32.ofInt (mM (earS h0) s : Nat))) σ) : CALL (r + 3) n_Monks_pairs [.inr (.inr (34, n)), .inl (Int32.ofInt (s : Int))] σ K := by
  have b := hw.1
  have hp : (2 : Nat) ^ (h0 1).toNat ≤ 2 ^ 7 := Nat.pow_le_pow_right (by omega) (by omega)
  have hs7 : s < 128 := by omega
  refine r_Monks_pairs hC (fun J hJ => ?_)
  refine hJ _ _ _ _ ?_
  conv => whnf
  refine s_leastOf hC hs7 ?_
  conv => whnf
  cases hl : lst s with
  | none =>
    rw [show opI none = -1 from rfl]
    refine ⟨fun c => ?_, fun c => ?_⟩ <;> (try simp (disch := omega) only [oi_le, oi_lt, oi_eq, oi_lt0, oi_le0, oi_0lt, oi_0le, oi_eq0, oi_eq1, bI_eq0, bI_ne0, bI_eq1, decide_eq_true_eq, decide_eq_false_iff_not, lc_lt, lc_gt, lc_eq, lc_ge, lc_le, ol_lt, ol_eq, ne_eq, Int.not_lt, Int.not_le, Bool.not_eq_true, Bool.not_eq_false, Decidable.not_not, not_true_eq_false, not_false_eq_true, Bool.true_eq_false, Bool.false_eq_true] at c) <;> (first | (exfalso; omega) | ((with_reducible refine hJ _ _ _ _ ?_); conv => whnf) | (conv => whnf))
    rw [mM_0 _ hl] at h
    exact h
  | some a =>
    obtain ⟨a1, a2, a3⟩ := lst_some.mp hl
    have hac : (a : Int) < h0 1 := by
      by_cases e : (a : Int) < h0 1
      · exact e
      · have : s.testBit a = false := Nat.testBit_lt_two_pow (Nat.lt_of_lt_of_le hs (Nat.pow_le_pow_right (by omega) (by omega)))
        rw [this] at a2
        cases a2
    have hea := hw.2.2.1 a hac
    have ra := rem_cnt hs7 a1 a2
    have ral := rem_lt hs7 a1
    rw [show opI (some a) = (a : Int) from rfl]
    refine ⟨fun c => ?_, fun c => ?_⟩ <;> (try simp (disch := omega) only [oi_le, oi_lt, oi_eq, oi_lt0, oi_le0, oi_0lt, oi_0le, oi_eq0, oi_eq1, bI_eq0, bI_ne0, bI_eq1, decide_eq_true_eq, decide_eq_false_iff_not, lc_lt, lc_gt, lc_eq, lc_ge, lc_le, ol_lt, ol_eq, ne_eq, Int.not_lt, Int.not_le, Bool.not_eq_true, Bool.not_eq_false, Decidable.not_not, not_true_eq_false, not_false_eq_true, Bool.true_eq_false, Bool.false_eq_true] at c) <;> (first | (exfalso; omega) | ((with_reducible refine hJ _ _ _ _ ?_); conv => whnf) | (conv => whnf))
    refine s_with hC (b := false) hs7 a1 ?_
    conv => whnf
    refine rec (rem s a) _ (by omega) (by omega) (by omega) ?_
    conv => whnf
    have e1 : σ.1 34 n a = Int32.ofInt (((h0 (30 + 7 * a)).toNat : Nat) : Int) := by
      obtain ⟨-, -, -, -, -, -, -, -, -, -, -, -, em, -⟩ := hr
      rw [(em a hac).2.2.2.2.2]
      congr 1
      omega
    have mb : ∀ s', s' < 128 → mM (earS h0) s' ≤ 7 := fun s' h' => mM_bd (earS h0) 7 s' h'
    have mb0 := mb _ ral
    have mxb : ∀ i, i ≤ 7 → mxN (pS (earS h0) (mM (earS h0)) s a) i ≤ 8 := fun i hi => mxN_bd (fun k hk => by
      unfold pS
      split
      · have := mb (rem (rem s a) k) (rem_lt ral (by omega))
        omega
      · omega)
    have loop : ∀ (q i : Nat), i + q = 7 → a < i → J 31 [.inr (.inr (34, n)), .inl (Int32.ofInt (s : Int)), .inl (Int32.ofInt (a : Int)), .inl (Int32.ofInt (rem s a : Nat)), .inl (Int32.ofInt (max (mM (earS h0) (rem s a)) (mxN (pS (earS h0) (mM (earS h0)) s a) i) : Nat)), .inl (Int32.ofInt (i : Int))] [] σ := by
      intro q
      induction q with
      | zero =>
        intro i hi hai
        have : i = 7 := by omega
        subst this
        refine hJ _ _ _ _ ?_
        conv => whnf
        refine ⟨fun c2 => ?_, fun c2 => ?_⟩ <;> (try simp (disch := omega) only [oi_le, oi_lt, oi_eq, oi_lt0, oi_le0, oi_0lt, oi_0le, oi_eq0, oi_eq1, bI_eq0, bI_ne0, bI_eq1, decide_eq_true_eq, decide_eq_false_iff_not, lc_lt, lc_gt, lc_eq, lc_ge, lc_le, ol_lt, ol_eq, ne_eq, Int.not_lt, Int.not_le, Bool.not_eq_true, Bool.not_eq_false, Decidable.not_not, not_true_eq_false, not_false_eq_true, Bool.true_eq_false, Bool.false_eq_true] at c2) <;> (first | (exfalso; omega) | ((with_reducible refine hJ _ _ _ _ ?_); conv => whnf) | (conv => whnf))
        rw [← mM_eq (earS h0) hs7 hl]
        exact h
      | succ q ih =>
        intro i hi hai
        have nx := ih (i + 1) (by omega) (by omega)
        rw [mxN] at nx
        have mxi := mxb i (by omega)
        have hand : rem s a &&& (h0 (30 + 7 * a)).toNat < 128 := Nat.lt_of_le_of_lt Nat.and_le_left ral
        refine hJ _ _ _ _ ?_
        conv => whnf
        refine ⟨fun c2 => ?_, fun c2 => ?_⟩ <;> (try simp (disch := omega) only [oi_le, oi_lt, oi_eq, oi_lt0, oi_le0, oi_0lt, oi_0le, oi_eq0, oi_eq1, bI_eq0, bI_ne0, bI_eq1, decide_eq_true_eq, decide_eq_false_iff_not, lc_lt, lc_gt, lc_eq, lc_ge, lc_le, ol_lt, ol_eq, ne_eq, Int.not_lt, Int.not_le, Bool.not_eq_true, Bool.not_eq_false, Decidable.not_not, not_true_eq_false, not_false_eq_true, Bool.true_eq_false, Bool.false_eq_true] at c2) <;> (first | (exfalso; omega) | ((with_reducible refine hJ _ _ _ _ ?_); conv => whnf) | (conv => whnf))
        refine ⟨(oi_in (by omega) (by omega)).mpr ⟨by omega, by omega⟩, ?_⟩
        conv => whnf
        rw [oi_nat (by omega) (by omega), Int.toNat_natCast, e1, oi_and]
        refine s_has hC (by omega) (by omega) ?_
        conv => whnf
        have eb : (rem s a &&& (h0 (30 + 7 * a)).toNat).testBit i = (s.testBit i && earS h0 a i) := by
          rw [Nat.testBit_and, rem_bit hs7 a1 (by omega), decide_eq_true (show i ≠ a by omega), Bool.and_true]
          rfl
        rw [eb]
        refine ⟨fun c3 => ?_, fun c3 => ?_⟩ <;> (try simp (disch := omega) only [oi_le, oi_lt, oi_eq, oi_lt0, oi_le0, oi_0lt, oi_0le, oi_eq0, oi_eq1, bI_eq0, bI_ne0, bI_eq1, decide_eq_true_eq, decide_eq_false_iff_not, lc_lt, lc_gt, lc_eq, lc_ge, lc_le, ol_lt, ol_eq, ne_eq, Int.not_lt, Int.not_le, Bool.not_eq_true, Bool.not_eq_false, Decidable.not_not, not_true_eq_false, not_false_eq_true, Bool.true_eq_false, Bool.false_eq_true] at c3) <;> (first | (exfalso; omega) | ((with_reducible refine hJ _ _ _ _ ?_); conv => whnf) | (conv => whnf))
        · rw [oi_succ]
          have hz : pS (earS h0) (mM (earS h0)) s a i = 0 := pS_no (fun z => by rw [z.2.1, z.2.2] at c3; cases c3)
          rw [hz, Nat.max_eq_left (show 0 ≤ mxN (pS (earS h0) (mM (earS h0)) s a) i by omega)] at nx
          exact nx
        · simp only [Bool.and_eq_true] at c3
          have hz : pS (earS h0) (mM (earS h0)) s a i = 1 + mM (earS h0) (rem (rem s a) i) := pS_yes ⟨hai, c3.1, c3.2⟩
          have hbi : (rem s a).testBit i = true := by
            rw [rem_bit hs7 a1 (by omega), c3.1, decide_eq_true (show i ≠ a by omega)]
            rfl
          have ri := rem_cnt ral (show i < 7 by omega) hbi
          refine s_with hC (b := false) ral (by omega) ?_
          conv => whnf
          refine rec (rem (rem s a) i) _ (by omega) (by omega) (by omega) ?_
          conv => whnf
          have mbi := mb (rem (rem s a) i) (rem_lt ral (by omega))
          rw [oi_add]
          refine s_maxI hC (by omega) (by omega) (by omega) (by omega) ?_
          conv => whnf
          refine hJ _ _ _ _ ?_
          conv => whnf
          rw [oi_succ]
          rw [hz] at nx
          rw [show max ((max (mM (earS h0) (rem s a)) (mxN (pS (earS h0) (mM (earS h0)) s a) i) : Nat) : Int) (1 + ((mM (earS h0) (rem (rem s a) i) : Nat) : Int)) = ((max (mM (earS h0) (rem s a)) (max (mxN (pS (earS h0) (mM (earS h0)) s a) i) (1 + mM (earS h0) (rem (rem s a) i))) : Nat) : Int) by omega]
          exact nx
    have st := loop (7 - (a + 1)) (a + 1) (by omega) (by omega)
    have hz : mxN (pS (earS h0) (mM (earS h0)) s a) (a + 1) = 0 := by
      have : mxN (pS (earS h0) (mM (earS h0)) s a) (a + 1) ≤ 0 := mxN_bd (fun k hk => by rw [pS_no (by omega)]; exact Nat.le_refl 0)
      omega
    rw [hz, Nat.max_eq_left (Nat.zero_le _)] at st
    rw [oi_succ]
    exact st
theorem s_pairs {CALL : CT} (hC : RuleAll CALL) {n : Nat} {h0 : Nat → Int} {σ : AM} (hr : HRep σ n h0) (hw : WF h0) : ∀ (f r : Nat) {K : AV → AM → Prop} {s : Nat}, s < 2 ^ (h0 1).toNat → cnt s ≤ f → K (.inl (Int32.ofInt (mM (earS h0) s : Nat))) σ → CALL (r + f + 3) n_Monks_pairs [.inr (.inr (34, n)), .inl (Int32.ofInt (s : Int))] σ K := by
  intro f
  induction f with
  | zero =>
    intro r K s hs hc h
    exact s_pairs1 hC hr hw hs (fun s' K' h1 h2 h3 => by omega) h
  | succ f ih =>
    intro r K s hs hc h
    exact s_pairs1 hC hr hw hs (fun s' K' h1 h2 h3 h4 => ih r h2 (by omega) h4) h
def coS (t i _j : Nat) : Prop := i = 0 ∧ t = 62
theorem coS_k : ∀ t i j, coS t i j → ¬ keepI t i j := by
  intro t i j h
  unfold coS at h
  unfold keepI
  omega
theorem coS_16 : ¬ coS 1 0 16 := by unfold coS; omega
theorem s_m_couplesOf {CALL : CT} (hC : RuleAll CALL) {r : Nat} {σ : AM} {K : AV → AM → Prop} {s0 : Nat} {h0 : Nat → Int} (hm : M0 σ h0) (hw : WF h0) (hs0 : s0 < 2 ^ (h0 1).toNat) (h : ∀ σ' : AM, Ch coS σ σ' → K (.inl (Int32.ofInt (mM (earS h0) s0 : Nat))) σ') : CALL (r + 3) n_m_couplesOf [.inr (.inr (46, 0)), .inl (Int32.ofInt s0)] σ K := by
  refine r_m_couplesOf hC (fun J hJ => ?_)
  refine hJ _ _ _ _ ?_
  conv => whnf
  have b := hw.1
  have hp : (2 : Nat) ^ (h0 1).toNat ≤ 2 ^ 7 := Nat.pow_le_pow_right (by omega) (by omega)
  have m0 : ∀ σ1 : AM, Ch coS σ σ1 → M0 σ1 h0 := fun σ1 hc => hm.ch hc (fun j hj => by unfold coS; omega)
  have mb : ∀ s', s' < 128 → mM (earS h0) s' ≤ 7 := fun s' h' => mM_bd (earS h0) 7 s' h'
  have pb : ∀ s a k, s < 128 → a < 7 → k ≤ 7 → mxN (pM (earS h0) s a) k ≤ 8 := fun s a k hs ha hk => mxN_bd (fun i hi => by
    unfold pM
    split
    · have := mb (rem (rem s a) i) (rem_lt (rem_lt hs ha) (by omega))
      omega
    · omega)
  have qb : ∀ s k, s < 128 → k ≤ 7 → mxN (fun a => mxN (pM (earS h0) s a) 7) k ≤ 8 := fun s k hs hk => mxN_bd (fun i hi => pb s i 7 hs (by omega) (by omega))
  have inner : ∀ (q b' a s : Nat) (σ1 : AM), b' + q = 7 → a < b' → s ≤ s0 → Ch coS σ σ1 → (∀ s', s' < s → σ1.1 62 0 s' = Int32.ofInt (mM (earS h0) s' : Nat)) → σ1.1 62 0 s = Int32.ofInt (max (mxN (fun a => mxN (pM (earS h0) s a) 7) a) (mxN (pM (earS h0) s a) b') : Nat) → (∀ (σ2 : AM), Ch coS σ σ2 → (∀ s', s' < s → σ2.1 62 0 s' = Int32.ofInt (mM (earS h0) s' : Nat)) → σ2.1 62 0 s = Int32.ofInt (mxN (fun a => mxN (pM (earS h0) s a) 7) (a + 1) : Nat) → J 114 [.inr (.inr (46, 0)), .inl (Int32.ofInt s0), .inl (Int32.ofInt (s : Int)), .inl (Int32.ofInt (a : Int)), .inl (Int32.ofInt 7)] [] σ2) → J 27 [.inr (.inr (46, 0)), .inl (Int32.ofInt s0), .inl (Int32.ofInt (s : Int)), .inl (Int32.ofInt (a : Int)), .inl (Int32.ofInt (b' : Int))] [] σ1 := by
    intro q
    induction q with
    | zero =>
      intro b' a s σ1 hi hab hs f1 f2 f3 hk
      have : b' = 7 := by omega
      subst this
      refine hJ _ _ _ _ ?_
      conv => whnf
      refine ⟨fun c => ?_, fun c => ?_⟩ <;> (try simp (disch := omega) only [oi_le, oi_lt, oi_eq, oi_lt0, oi_le0, oi_0lt, oi_0le, oi_eq0, oi_eq1, bI_eq0, bI_ne0, bI_eq1, decide_eq_true_eq, decide_eq_false_iff_not, lc_lt, lc_gt, lc_eq, lc_ge, lc_le, ol_lt, ol_eq, ne_eq, Int.not_lt, Int.not_le, Bool.not_eq_true, Bool.not_eq_false, Decidable.not_not, not_true_eq_false, not_false_eq_true, Bool.true_eq_false, Bool.false_eq_true] at c) <;> (first | (exfalso; omega) | ((fail_if_success with_reducible refine hJ _ _ _ _ ?_); conv => whnf) | skip)
      exact hk σ1 f1 f2 f3
    | succ q ih =>
      intro b' a s σ1 hi hab hs f1 f2 f3 hk
      have hs7 : s < 128 := by omega
      have pbi := pb s a b' hs7 (by omega) (by omega)
      have qbi := qb s a hs7 (by omega)
      have skip : pM (earS h0) s a b' = 0 → J 108 [.inr (.inr (46, 0)), .inl (Int32.ofInt s0), .inl (Int32.ofInt (s : Int)), .inl (Int32.ofInt (a : Int)), .inl (Int32.ofInt (b' : Int))] [] σ1 := by
        intro hz
        refine hJ _ _ _ _ ?_
        conv => whnf
        rw [oi_succ]
        refine ih (b' + 1) a s σ1 (by omega) (by omega) hs f1 f2 ?_ hk
        rw [mxN, hz, Nat.max_eq_left (show 0 ≤ mxN (pM (earS h0) s a) b' by omega)]
        exact f3
      refine hJ _ _ _ _ ?_
      conv => whnf
      refine ⟨fun c => ?_, fun c => ?_⟩ <;> (try simp (disch := omega) only [oi_le, oi_lt, oi_eq, oi_lt0, oi_le0, oi_0lt, oi_0le, oi_eq0, oi_eq1, bI_eq0, bI_ne0, bI_eq1, decide_eq_true_eq, decide_eq_false_iff_not, lc_lt, lc_gt, lc_eq, lc_ge, lc_le, ol_lt, ol_eq, ne_eq, Int.not_lt, Int.not_le, Bool.not_eq_true, Bool.not_eq_false, Decidable.not_not, not_true_eq_false, not_false_eq_true, Bool.true_eq_false, Bool.false_eq_true] at c) <;> (first | (exfalso; omega) | ((with_reducible refine hJ _ _ _ _ ?_); conv => whnf) | (conv => whnf))
      refine s_m_isIn hC (by omega) (by omega) ?_
      conv => whnf
      refine ⟨fun c2 => ?_, fun c2 => ?_⟩ <;> (try simp (disch := omega) only [oi_le, oi_lt, oi_eq, oi_lt0, oi_le0, oi_0lt, oi_0le, oi_eq0, oi_eq1, bI_eq0, bI_ne0, bI_eq1, decide_eq_true_eq, decide_eq_false_iff_not, lc_lt, lc_gt, lc_eq, lc_ge, lc_le, ol_lt, ol_eq, ne_eq, Int.not_lt, Int.not_le, Bool.not_eq_true, Bool.not_eq_false, Decidable.not_not, not_true_eq_false, not_false_eq_true, Bool.true_eq_false, Bool.false_eq_true] at c2) <;> (first | (exfalso; omega) | ((fail_if_success with_reducible refine hJ _ _ _ _ ?_); conv => whnf) | skip)
      · exact skip (if_neg (fun z => by rw [z.2.1] at c2; cases c2))
      · have hac : (a : Int) < h0 1 := by
          by_cases e : (a : Int) < h0 1
          · exact e
          · have : s.testBit a = false := Nat.testBit_lt_two_pow (Nat.lt_of_lt_of_le (show s < 2 ^ (h0 1).toNat by omega) (Nat.pow_le_pow_right (by omega) (by omega)))
            rw [this] at c2
            cases c2
        have hea := hw.2.2.1 a hac
        refine s_m_isIn hC (by omega) (by omega) ?_
        conv => whnf
        refine ⟨fun c3 => ?_, fun c3 => ?_⟩ <;> (try simp (disch := omega) only [oi_le, oi_lt, oi_eq, oi_lt0, oi_le0, oi_0lt, oi_0le, oi_eq0, oi_eq1, bI_eq0, bI_ne0, bI_eq1, decide_eq_true_eq, decide_eq_false_iff_not, lc_lt, lc_gt, lc_eq, lc_ge, lc_le, ol_lt, ol_eq, ne_eq, Int.not_lt, Int.not_le, Bool.not_eq_true, Bool.not_eq_false, Decidable.not_not, not_true_eq_false, not_false_eq_true, Bool.true_eq_false, Bool.false_eq_true] at c3) <;> (first | (exfalso; omega) | ((fail_if_success with_reducible refine hJ _ _ _ _ ?_); conv => whnf) | skip)
        · exact skip (if_neg (fun z => by rw [z.2.2.1] at c3; cases c3))
        · refine s_m_monkOf hC (w := 6) (m0 σ1 f1) (by omega) (by omega) ?_
          conv => whnf
          rw [show 24 + 7 * a + 6 = 30 + 7 * a by omega, show h0 (30 + 7 * a) = (((h0 (30 + 7 * a)).toNat : Nat) : Int) by omega]
          refine s_m_isIn hC (by omega) (by omega) ?_
          conv => whnf
          rw [show (h0 (30 + 7 * a)).toNat.testBit b' = earS h0 a b' from rfl]
          refine ⟨fun c4 => ?_, fun c4 => ?_⟩ <;> (try simp (disch := omega) only [oi_le, oi_lt, oi_eq, oi_lt0, oi_le0, oi_0lt, oi_0le, oi_eq0, oi_eq1, bI_eq0, bI_ne0, bI_eq1, decide_eq_true_eq, decide_eq_false_iff_not, lc_lt, lc_gt, lc_eq, lc_ge, lc_le, ol_lt, ol_eq, ne_eq, Int.not_lt, Int.not_le, Bool.not_eq_true, Bool.not_eq_false, Decidable.not_not, not_true_eq_false, not_false_eq_true, Bool.true_eq_false, Bool.false_eq_true] at c4) <;> (first | (exfalso; omega) | ((with_reducible refine hJ _ _ _ _ ?_); conv => whnf) | (conv => whnf))
          · have r1 := rem_lt hs7 (show a < 7 by omega)
            have r2 := rem_lt r1 (show b' < 7 by omega)
            have rc1 := rem_cnt hs7 (show a < 7 by omega) c2
            have rle := rem_le r1 (show b' < 7 by omega)
            have mbi := mb _ r2
            have ecl : ∀ s k : Nat, s < 128 → k < 7 → Int32.ofInt (s : Int) &&& ((Int32.ofInt 1 <<< (Int32.ofInt (k : Int) &&& 31)) ^^^ Int32.ofInt (-1)) = Int32.ofInt (rem s k : Nat) := fun s k h1 h2 => oi_clr h1 h2
            refine ⟨(oi_in (by omega) (by omega)).mpr ⟨by omega, by omega⟩, ?_⟩
            conv => whnf
            rw [ecl s a hs7 (by omega), ecl (rem s a) b' r1 (by omega)]
            refine ⟨(oi_in (by omega) (by omega)).mpr ⟨by omega, by omega⟩, ?_⟩
            conv => whnf
            rw [oi_nat (by omega) (by omega), oi_nat (by omega) (by omega), Int.toNat_natCast, Int.toNat_natCast, f3, f2 (rem (rem s a) b') (by omega), oi_add]
            refine s_maxI hC (by omega) (by omega) (by omega) (by omega) ?_
            conv => whnf
            refine ⟨(oi_in (by omega) (by omega)).mpr ⟨by omega, by omega⟩, ?_⟩
            conv => whnf
            rw [oi_nat (by omega) (by omega), Int.toNat_natCast]
            refine hJ _ _ _ _ ?_
            conv => whnf
            rw [oi_succ]
            refine ih (b' + 1) a s _ (by omega) (by omega) hs (f1.tr (Ch.wI ⟨rfl, rfl⟩)) (fun s' hs' => ?_) ?_ hk
            · rw [wI1, if_neg (by omega)]
              exact f2 s' hs'
            · rw [wI1, if_pos ⟨rfl, rfl, rfl⟩, mxN, show pM (earS h0) s a b' = 1 + mM (earS h0) (rem (rem s a) b') from if_pos ⟨hab, c2, c3, c4⟩]
              congr 1
              omega
          · exact skip (if_neg (fun z => by rw [z.2.2.2] at c4; cases c4))
  have mid : ∀ (q a s : Nat) (x : AV) (σ1 : AM), a + q = 7 → s ≤ s0 → Ch coS σ σ1 → (∀ s', s' < s → σ1.1 62 0 s' = Int32.ofInt (mM (earS h0) s' : Nat)) → σ1.1 62 0 s = Int32.ofInt (mxN (fun a => mxN (pM (earS h0) s a) 7) a : Nat) → (∀ (σ2 : AM) (y3 y4 : AV), Ch coS σ σ2 → (∀ s', s' < s + 1 → σ2.1 62 0 s' = Int32.ofInt (mM (earS h0) s' : Nat)) → J 120 [.inr (.inr (46, 0)), .inl (Int32.ofInt s0), .inl (Int32.ofInt (s : Int)), y3, y4] [] σ2) → J 16 [.inr (.inr (46, 0)), .inl (Int32.ofInt s0), .inl (Int32.ofInt (s : Int)), .inl (Int32.ofInt (a : Int)), x] [] σ1 := by
    intro q
    induction q with
    | zero =>
      intro a s x σ1 hi hs f1 f2 f3 hk
      have : a = 7 := by omega
      subst this
      refine hJ _ _ _ _ ?_
      conv => whnf
      refine ⟨fun c => ?_, fun c => ?_⟩ <;> (try simp (disch := omega) only [oi_le, oi_lt, oi_eq, oi_lt0, oi_le0, oi_0lt, oi_0le, oi_eq0, oi_eq1, bI_eq0, bI_ne0, bI_eq1, decide_eq_true_eq, decide_eq_false_iff_not, lc_lt, lc_gt, lc_eq, lc_ge, lc_le, ol_lt, ol_eq, ne_eq, Int.not_lt, Int.not_le, Bool.not_eq_true, Bool.not_eq_false, Decidable.not_not, not_true_eq_false, not_false_eq_true, Bool.true_eq_false, Bool.false_eq_true] at c) <;> (first | (exfalso; omega) | ((fail_if_success with_reducible refine hJ _ _ _ _ ?_); conv => whnf) | skip)
      refine hk σ1 _ _ f1 (fun s' hs' => ?_)
      by_cases e : s' = s
      · subst e
        rw [mM_pairs _ (by omega)]
        exact f3
      · exact f2 s' (by omega)
    | succ q ih =>
      intro a s x σ1 hi hs f1 f2 f3 hk
      refine hJ _ _ _ _ ?_
      conv => whnf
      refine ⟨fun c => ?_, fun c => ?_⟩ <;> (try simp (disch := omega) only [oi_le, oi_lt, oi_eq, oi_lt0, oi_le0, oi_0lt, oi_0le, oi_eq0, oi_eq1, bI_eq0, bI_ne0, bI_eq1, decide_eq_true_eq, decide_eq_false_iff_not, lc_lt, lc_gt, lc_eq, lc_ge, lc_le, ol_lt, ol_eq, ne_eq, Int.not_lt, Int.not_le, Bool.not_eq_true, Bool.not_eq_false, Decidable.not_not, not_true_eq_false, not_false_eq_true, Bool.true_eq_false, Bool.false_eq_true] at c) <;> (first | (exfalso; omega) | ((with_reducible refine hJ _ _ _ _ ?_); conv => whnf) | (conv => whnf))
      rw [oi_succ]
      refine inner (7 - (a + 1)) (a + 1) a s σ1 (by omega) (by omega) hs f1 f2 ?_ ?_
      · have : mxN (pM (earS h0) s a) (a + 1) ≤ 0 := mxN_bd (fun k hk => by rw [show pM (earS h0) s a k = 0 from if_neg (by omega)]; exact Nat.le_refl 0)
        rw [show mxN (pM (earS h0) s a) (a + 1) = 0 by omega, Nat.max_eq_left (Nat.zero_le _)]
        exact f3
      · intro σ2 k1 k2 k3
        refine hJ _ _ _ _ ?_
        conv => whnf
        rw [oi_succ]
        exact ih (a + 1) s _ σ2 (by omega) hs k1 k2 k3 hk
  have outer : ∀ (q s : Nat) (x3 x4 : AV) (σ1 : AM), s + q = s0 + 1 → Ch coS σ σ1 → (∀ s', s' < s → σ1.1 62 0 s' = Int32.ofInt (mM (earS h0) s' : Nat)) → J 2 [.inr (.inr (46, 0)), .inl (Int32.ofInt s0), .inl (Int32.ofInt (s : Int)), x3, x4] [] σ1 := by
    intro q
    induction q with
    | zero =>
      intro s x3 x4 σ1 hi f1 f2
      refine hJ _ _ _ _ ?_
      conv => whnf
      refine ⟨fun c => ?_, fun c => ?_⟩ <;> (try simp (disch := omega) only [oi_le, oi_lt, oi_eq, oi_lt0, oi_le0, oi_0lt, oi_0le, oi_eq0, oi_eq1, bI_eq0, bI_ne0, bI_eq1, decide_eq_true_eq, decide_eq_false_iff_not, lc_lt, lc_gt, lc_eq, lc_ge, lc_le, ol_lt, ol_eq, ne_eq, Int.not_lt, Int.not_le, Bool.not_eq_true, Bool.not_eq_false, Decidable.not_not, not_true_eq_false, not_false_eq_true, Bool.true_eq_false, Bool.false_eq_true] at c) <;> (first | (exfalso; omega) | ((with_reducible refine hJ _ _ _ _ ?_); conv => whnf) | (conv => whnf))
      refine ⟨(oi_in (by omega) (by omega)).mpr ⟨by omega, by omega⟩, ?_⟩
      conv => whnf
      rw [oi_nat (by omega) (by omega), Int.toNat_natCast, f2 s0 (by omega)]
      exact h σ1 f1
    | succ q ih =>
      intro s x3 x4 σ1 hi f1 f2
      refine hJ _ _ _ _ ?_
      conv => whnf
      refine ⟨fun c => ?_, fun c => ?_⟩ <;> (try simp (disch := omega) only [oi_le, oi_lt, oi_eq, oi_lt0, oi_le0, oi_0lt, oi_0le, oi_eq0, oi_eq1, bI_eq0, bI_ne0, bI_eq1, decide_eq_true_eq, decide_eq_false_iff_not, lc_lt, lc_gt, lc_eq, lc_ge, lc_le, ol_lt, ol_eq, ne_eq, Int.not_lt, Int.not_le, Bool.not_eq_true, Bool.not_eq_false, Decidable.not_not, not_true_eq_false, not_false_eq_true, Bool.true_eq_false, Bool.false_eq_true] at c) <;> (first | (exfalso; omega) | ((with_reducible refine hJ _ _ _ _ ?_); conv => whnf) | (conv => whnf))
      refine ⟨(oi_in (by omega) (by omega)).mpr ⟨by omega, by omega⟩, ?_⟩
      conv => whnf
      rw [oi_nat (by omega) (by omega), Int.toNat_natCast]
      refine mid 7 0 s _ _ (by omega) (by omega) (f1.tr (Ch.wI ⟨rfl, rfl⟩)) (fun s' hs' => ?_) ?_ ?_
      · rw [wI1, if_neg (by omega)]
        exact f2 s' hs'
      · rw [wI1, if_pos ⟨rfl, rfl, rfl⟩]
        rfl
      · intro σ2 y3 y4 k1 k2
        refine hJ _ _ _ _ ?_
        conv => whnf
        rw [oi_succ]
        exact ih (s + 1) _ _ σ2 (by omega) k1 k2
  exact outer (s0 + 1) 0 _ _ σ (by omega) Ch.rf (fun s' hs' => by omega)
theorem op_couples {CALL : CT} (hC : RuleAll CALL) {r : Nat} {σ : AM} {K : AV → AV → AM → Prop} {n : Nat} {h0 : Nat → Int} (hn : NH σ n h0) {y : Int} (y1 : -2147483648 ≤ y) (y2 : y < 2147483648) (h : ∀ v σ2, SC σ σ2 → σ2.1 1 0 16 = σ2.1 46 0 2 → K v v σ2) : CALL (r + 20) n_x_couples [.inr (.inr (1, 0)), .inl (Int32.ofInt y)] σ (fun v σ1 => CALL (r + 20) n_m_couples [.inr (.inr (46, 0)), .inl (Int32.ofInt y)] σ1 (fun v' σ2 => K v v' σ2)) := by
  obtain ⟨n45, hnn, hr, hm, ⟨hw, hw67⟩, h59⟩ := id hn
  have b := hw.1
  obtain ⟨q0, q1, q2, q3, q4, q5, q6, q7, q8, q9, qa, qt, qm, qe⟩ := id hr
  have hp : (2 : Nat) ^ (h0 1).toNat ≤ 2 ^ 7 := Nat.pow_le_pow_right (by omega) (by omega)
  refine r_x_couples hC (fun J hJ => ?_)
  refine hJ _ _ _ _ ?_
  conv => whnf
  refine s_isSet hC hn y1 y2 ?_
  conv => whnf
  refine ⟨fun c => ?_, fun c => ?_⟩ <;> (try simp (disch := omega) only [oi_le, oi_lt, oi_eq, oi_lt0, oi_le0, oi_0lt, oi_0le, oi_eq0, oi_eq1, bI_eq0, bI_ne0, bI_eq1, decide_eq_true_eq, decide_eq_false_iff_not, lc_lt, lc_gt, lc_eq, lc_ge, lc_le, ol_lt, ol_eq, ne_eq, Int.not_lt, Int.not_le, Bool.not_eq_true, Bool.not_eq_false, Decidable.not_not, not_true_eq_false, not_false_eq_true, Bool.true_eq_false, Bool.false_eq_true] at c) <;> (first | (exfalso; omega) | ((with_reducible refine hJ _ _ _ _ ?_); conv => whnf) | (conv => whnf))
  · refine s_none hC ?_
    conv => whnf
    refine hJ _ _ _ _ ?_
    conv => whnf
    refine r_m_couples hC (fun J hJ => ?_)
    refine hJ _ _ _ _ ?_
    conv => whnf
    refine s_m_areMonks hC hm.c hw y1 y2 ?_
    conv => whnf
    refine ⟨fun c2 => ?_, fun c2 => ?_⟩ <;> (try simp (disch := omega) only [oi_le, oi_lt, oi_eq, oi_lt0, oi_le0, oi_0lt, oi_0le, oi_eq0, oi_eq1, bI_eq0, bI_ne0, bI_eq1, decide_eq_true_eq, decide_eq_false_iff_not, lc_lt, lc_gt, lc_eq, lc_ge, lc_le, ol_lt, ol_eq, ne_eq, Int.not_lt, Int.not_le, Bool.not_eq_true, Bool.not_eq_false, Decidable.not_not, not_true_eq_false, not_false_eq_true, Bool.true_eq_false, Bool.false_eq_true] at c2) <;> (first | (exfalso; omega) | ((with_reducible refine hJ _ _ _ _ ?_); conv => whnf) | (conv => whnf))
    refine s_m_refuse hC ?_
    conv => whnf
    refine hJ _ _ _ _ ?_
    conv => whnf
    exact h _ _ done2.1 done2.2
  · rw [hnn]
    refine ⟨by omega, ?_⟩
    conv => whnf
    obtain ⟨s, rfl⟩ : ∃ s : Nat, y = (s : Int) := ⟨y.toNat, by omega⟩
    have hs : s < 2 ^ (h0 1).toNat := Int.ofNat_lt.mp c.2
    have hc7 := cnt_le ⟨s, by omega⟩
    refine s_pairs hC hr hw 7 _ hs hc7 ?_
    conv => whnf
    refine s_give hC ?_
    conv => whnf
    refine hJ _ _ _ _ ?_
    conv => whnf
    refine r_m_couples hC (fun J hJ => ?_)
    refine hJ _ _ _ _ ?_
    conv => whnf
    refine s_m_areMonks hC hm.c hw y1 y2 ?_
    conv => whnf
    refine ⟨fun c2 => ?_, fun c2 => ?_⟩ <;> (try simp (disch := omega) only [oi_le, oi_lt, oi_eq, oi_lt0, oi_le0, oi_0lt, oi_0le, oi_eq0, oi_eq1, bI_eq0, bI_ne0, bI_eq1, decide_eq_true_eq, decide_eq_false_iff_not, lc_lt, lc_gt, lc_eq, lc_ge, lc_le, ol_lt, ol_eq, ne_eq, Int.not_lt, Int.not_le, Bool.not_eq_true, Bool.not_eq_false, Decidable.not_not, not_true_eq_false, not_false_eq_true, Bool.true_eq_false, Bool.false_eq_true] at c2) <;> (first | (exfalso; omega) | ((with_reducible refine hJ _ _ _ _ ?_); conv => whnf) | (conv => whnf))
    refine s_m_couplesOf hC hm.c hw hs ?_
    intro σ2 f1
    conv => whnf
    refine s_m_gives hC ?_
    conv => whnf
    refine hJ _ _ _ _ ?_
    conv => whnf
    have dn := done4 f1 coS_k coS_16
    exact h _ _ dn.1 dn.2
theorem op_allRead {CALL : CT} (hC : RuleAll CALL) {r : Nat} {σ : AM} {K : AV → AV → AM → Prop} {n : Nat} {h0 : Nat → Int} (hn : NH σ n h0) {y : Int} (y1 : -2147483648 ≤ y) (y2 : y < 2147483648) (h : ∀ v σ2, SC σ σ2 → σ2.1 1 0 16 = σ2.1 46 0 2 → K v v σ2) : CALL (r + 20) n_x_allRead [.inr (.inr (1, 0)), .inl (Int32.ofInt y)] σ (fun v σ1 => CALL (r + 20) n_m_allRead [.inr (.inr (46, 0)), .inl (Int32.ofInt y)] σ1 (fun v' σ2 => K v v' σ2)) := by
  obtain ⟨n45, hnn, hr, hm, ⟨hw, hw67⟩, h59⟩ := id hn
  have b := hw.1
  obtain ⟨q0, q1, q2, q3, q4, q5, q6, q7, q8, q9, qa, qt, qm, qe⟩ := id hr
  have hp : (2 : Nat) ^ (h0 1).toNat ≤ 2 ^ 7 := Nat.pow_le_pow_right (by omega) (by omega)
  refine r_x_allRead hC (fun J hJ => ?_)
  refine hJ _ _ _ _ ?_
  conv => whnf
  refine s_isSet hC hn y1 y2 ?_
  conv => whnf
  refine ⟨fun c => ?_, fun c => ?_⟩ <;> (try simp (disch := omega) only [oi_le, oi_lt, oi_eq, oi_lt0, oi_le0, oi_0lt, oi_0le, oi_eq0, oi_eq1, bI_eq0, bI_ne0, bI_eq1, decide_eq_true_eq, decide_eq_false_iff_not, lc_lt, lc_gt, lc_eq, lc_ge, lc_le, ol_lt, ol_eq, ne_eq, Int.not_lt, Int.not_le, Bool.not_eq_true, Bool.not_eq_false, Decidable.not_not, not_true_eq_false, not_false_eq_true, Bool.true_eq_false, Bool.false_eq_true] at c) <;> (first | (exfalso; omega) | ((with_reducible refine hJ _ _ _ _ ?_); conv => whnf) | (conv => whnf))
  · rw [hnn]
    refine ⟨by omega, ?_⟩
    conv => whnf
    obtain ⟨s, rfl⟩ : ∃ s : Nat, y = (s : Int) := ⟨y.toNat, by omega⟩
    have hs : s < 2 ^ (h0 1).toNat := Int.ofNat_lt.mp c.2
    have hc7 := cnt_le ⟨s, by omega⟩
    have mb : mM (earS h0) s ≤ 7 := mM_bd (earS h0) 7 s (by omega)
    dsimp only at hc7
    refine s_pairs hC hr hw 7 _ hs hc7 ?_
    conv => whnf
    rw [oi_mul]
    refine s_bitCount hC (by omega) ?_
    conv => whnf
    have fin : ∀ bb : Bool, bb = decide (2 * mM (earS h0) s = cnt s) → J 43 [.inr (.inr (1, 0)), .inl (Int32.ofInt (s : Int))] [.inl (bI bb), .inr (.inr (1, 0))] σ := by
      intro bb hb
      refine hJ _ _ _ _ ?_
      conv => whnf
      refine s_truth hC ?_
      conv => whnf
      refine s_give hC ?_
      conv => whnf
      refine r_m_allRead hC (fun J hJ => ?_)
      refine hJ _ _ _ _ ?_
      conv => whnf
      refine s_m_areMonks hC hm.c hw y1 y2 ?_
      conv => whnf
      refine ⟨fun c2 => ?_, fun c2 => ?_⟩ <;> (try simp (disch := omega) only [oi_le, oi_lt, oi_eq, oi_lt0, oi_le0, oi_0lt, oi_0le, oi_eq0, oi_eq1, bI_eq0, bI_ne0, bI_eq1, decide_eq_true_eq, decide_eq_false_iff_not, lc_lt, lc_gt, lc_eq, lc_ge, lc_le, ol_lt, ol_eq, ne_eq, Int.not_lt, Int.not_le, Bool.not_eq_true, Bool.not_eq_false, Decidable.not_not, not_true_eq_false, not_false_eq_true, Bool.true_eq_false, Bool.false_eq_true] at c2) <;> (first | (exfalso; omega) | ((with_reducible refine hJ _ _ _ _ ?_); conv => whnf) | (conv => whnf))
      refine s_m_couplesOf hC hm.c hw hs ?_
      intro σ2 f1
      have dn := done4 f1 coS_k coS_16
      conv => whnf
      rw [oi_mul]
      refine s_m_bits hC (by omega) ?_
      conv => whnf
      refine ⟨fun c3 => ?_, fun c3 => ?_⟩ <;> (try simp (disch := omega) only [oi_le, oi_lt, oi_eq, oi_lt0, oi_le0, oi_0lt, oi_0le, oi_eq0, oi_eq1, bI_eq0, bI_ne0, bI_eq1, decide_eq_true_eq, decide_eq_false_iff_not, lc_lt, lc_gt, lc_eq, lc_ge, lc_le, ol_lt, ol_eq, ne_eq, Int.not_lt, Int.not_le, Bool.not_eq_true, Bool.not_eq_false, Decidable.not_not, not_true_eq_false, not_false_eq_true, Bool.true_eq_false, Bool.false_eq_true] at c3) <;> (first | (exfalso; omega) | ((with_reducible refine hJ _ _ _ _ ?_); conv => whnf) | (conv => whnf))
      · refine hJ _ _ _ _ ?_
        conv => whnf
        refine s_m_gives hC ?_
        conv => whnf
        refine hJ _ _ _ _ ?_
        conv => whnf
        rw [hb, decide_eq_false (by omega)]
        exact h _ _ dn.1 dn.2
      · refine hJ _ _ _ _ ?_
        conv => whnf
        refine s_m_gives hC ?_
        conv => whnf
        refine hJ _ _ _ _ ?_
        conv => whnf
        rw [hb, decide_eq_true (by omega)]
        exact h _ _ dn.1 dn.2
    refine ⟨fun c3 => ?_, fun c3 => ?_⟩ <;> (try simp (disch := omega) only [oi_le, oi_lt, oi_eq, oi_lt0, oi_le0, oi_0lt, oi_0le, oi_eq0, oi_eq1, bI_eq0, bI_ne0, bI_eq1, decide_eq_true_eq, decide_eq_false_iff_not, lc_lt, lc_gt, lc_eq, lc_ge, lc_le, ol_lt, ol_eq, ne_eq, Int.not_lt, Int.not_le, Bool.not_eq_true, Bool.not_eq_false, Decidable.not_not, not_true_eq_false, not_false_eq_true, Bool.true_eq_false, Bool.false_eq_true] at c3) <;> (first | (exfalso; omega) | ((with_reducible refine hJ _ _ _ _ ?_); conv => whnf) | (conv => whnf))
    · exact fin false (decide_eq_false (by omega)).symm
    · exact fin true (decide_eq_true (by omega)).symm
  · refine s_none hC ?_
    conv => whnf
    refine r_m_allRead hC (fun J hJ => ?_)
    refine hJ _ _ _ _ ?_
    conv => whnf
    refine s_m_areMonks hC hm.c hw y1 y2 ?_
    conv => whnf
    refine ⟨fun c2 => ?_, fun c2 => ?_⟩ <;> (try simp (disch := omega) only [oi_le, oi_lt, oi_eq, oi_lt0, oi_le0, oi_0lt, oi_0le, oi_eq0, oi_eq1, bI_eq0, bI_ne0, bI_eq1, decide_eq_true_eq, decide_eq_false_iff_not, lc_lt, lc_gt, lc_eq, lc_ge, lc_le, ol_lt, ol_eq, ne_eq, Int.not_lt, Int.not_le, Bool.not_eq_true, Bool.not_eq_false, Decidable.not_not, not_true_eq_false, not_false_eq_true, Bool.true_eq_false, Bool.false_eq_true] at c2) <;> (first | (exfalso; omega) | ((with_reducible refine hJ _ _ _ _ ?_); conv => whnf) | (conv => whnf))
    refine s_m_refuse hC ?_
    conv => whnf
    refine hJ _ _ _ _ ?_
    conv => whnf
    exact h _ _ done2.1 done2.2
