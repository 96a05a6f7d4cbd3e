/-! coughs -/
def flL (σ : AM) (t i k : Nat) : AM := (σ.1, fun t' i' j => if t' = t ∧ i' = i ∧ j < k then Int64.ofInt 0 else σ.2.1 t' i' j, σ.2.2)
theorem flL_0 (σ : AM) (t i : Nat) : flL σ t i 0 = σ := by
  refine Prod.ext rfl (Prod.ext ?_ rfl)
  funext t' i' j
  show (if t' = t ∧ i' = i ∧ j < 0 then Int64.ofInt 0 else σ.2.1 t' i' j) = _
  rw [if_neg (by omega)]
theorem wL1 (σ : AM) (t i j : Nat) (x : Int64) (t' i' j' : Nat) : (wL σ t i j x).2.1 t' i' j' = if t' = t ∧ i' = i ∧ j' = j then x else σ.2.1 t' i' j' := rfl
theorem flL_s (σ : AM) (t i k : Nat) : wL (flL σ t i k) t i k (Int64.ofInt 0) = flL σ t i (k + 1) := by
  refine Prod.ext rfl (Prod.ext ?_ rfl)
  funext t' i' j
  show (if t' = t ∧ i' = i ∧ j = k then Int64.ofInt 0 else if t' = t ∧ i' = i ∧ j < k then Int64.ofInt 0 else σ.2.1 t' i' j) = (if t' = t ∧ i' = i ∧ j < k + 1 then Int64.ofInt 0 else σ.2.1 t' i' j)
  by_cases c : t' = t ∧ i' = i
  · by_cases c2 : j = k
    · rw [if_pos ⟨c.1, c.2, c2⟩, if_pos ⟨c.1, c.2, by omega⟩]
    · rw [if_neg (fun z => c2 z.2.2)]
      by_cases c3 : j < k
      · rw [if_pos ⟨c.1, c.2, c3⟩, if_pos ⟨c.1, c.2, by omega⟩]
      · rw [if_neg (fun z => c3 z.2.2), if_neg (fun z => by omega)]
  · rw [if_neg (fun z => c ⟨z.1, z.2.1⟩), if_neg (fun z => c ⟨z.1, z.2.1⟩), if_neg (fun z => c ⟨z.1, z.2.1⟩)]
theorem s_fill21 {CALL : CT} (hC : RuleAll CALL) {r : Nat} {σ : AM} {K : AV → AM → Prop}  (h : K unset (flL σ 21 0 8)) : CALL (r + 1) n_Arrays_fill [.inr (.inr (21, 0)), .inr (.inl (Int64.ofInt 0))] σ K := by
  refine r_Arrays_fill hC (fun J hJ => ?_)
  refine hJ _ _ _ _ ?_
  conv => whnf
  have loop : ∀ (q i : Nat), i + q = 8 → J 6 [.inr (.inr (21, 0)), .inr (.inl (Int64.ofInt 0)), unset, .inl (Int32.ofInt (i : Int)), .inl (Int32.ofInt 8)] [] (flL σ 21 0 i) := by
    intro q
    induction q with
    | zero =>
      intro i hi
      have : i = 8 := by omega
      subst this
      refine hJ _ _ _ _ ?_
      conv => whnf
      refine ⟨fun c => ?_, fun c => ?_⟩ <;> (try simp (disch := omega) only [oi_le, oi_lt, oi_eq, oi_lt0, oi_le0, oi_0lt, oi_0le, oi_eq0, oi_eq1, bI_eq0, bI_ne0, bI_eq1, decide_eq_true_eq, decide_eq_false_iff_not, lc_lt, lc_gt, lc_eq, lc_ge, lc_le, ol_lt, ol_eq, ne_eq, Int.not_lt, Int.not_le, Bool.not_eq_true, Bool.not_eq_false, Decidable.not_not, not_true_eq_false, not_false_eq_true, Bool.true_eq_false, Bool.false_eq_true] at c) <;> (first | (exfalso; omega) | ((with_reducible refine hJ _ _ _ _ ?_); conv => whnf) | (conv => whnf))
      exact h
    | succ q ih =>
      intro i hi
      have nx := ih (i + 1) (by omega)
      rw [← flL_s] at nx
      refine hJ _ _ _ _ ?_
      conv => whnf
      refine ⟨fun c => ?_, fun c => ?_⟩ <;> (try simp (disch := omega) only [oi_le, oi_lt, oi_eq, oi_lt0, oi_le0, oi_0lt, oi_0le, oi_eq0, oi_eq1, bI_eq0, bI_ne0, bI_eq1, decide_eq_true_eq, decide_eq_false_iff_not, lc_lt, lc_gt, lc_eq, lc_ge, lc_le, ol_lt, ol_eq, ne_eq, Int.not_lt, Int.not_le, Bool.not_eq_true, Bool.not_eq_false, Decidable.not_not, not_true_eq_false, not_false_eq_true, Bool.true_eq_false, Bool.false_eq_true] at c) <;> (first | (exfalso; omega) | ((with_reducible refine hJ _ _ _ _ ?_); conv => whnf) | (conv => whnf))
      refine ⟨(oi_in (by omega) (by omega)).mpr ⟨by omega, by omega⟩, ?_⟩
      conv => whnf
      rw [oi_nat (by omega) (by omega), Int.toNat_natCast, oi_succ]
      exact nx
  have st := loop 8 0 (by omega)
  rw [flL_0] at st
  exact st
theorem s_fill45 {CALL : CT} (hC : RuleAll CALL) {r : Nat} {σ : AM} {K : AV → AM → Prop} {n : Nat} (h : K unset (flL σ 45 n 60)) : CALL (r + 1) n_Arrays_fill [.inr (.inr (45, n)), .inr (.inl (Int64.ofInt 0))] σ K := by
  refine r_Arrays_fill hC (fun J hJ => ?_)
  refine hJ _ _ _ _ ?_
  conv => whnf
  have loop : ∀ (q i : Nat), i + q = 60 → J 6 [.inr (.inr (45, n)), .inr (.inl (Int64.ofInt 0)), unset, .inl (Int32.ofInt (i : Int)), .inl (Int32.ofInt 60)] [] (flL σ 45 n i) := by
    intro q
    induction q with
    | zero =>
      intro i hi
      have : i = 60 := by omega
      subst this
      refine hJ _ _ _ _ ?_
      conv => whnf
      refine ⟨fun c => ?_, fun c => ?_⟩ <;> (try simp (disch := omega) only [oi_le, oi_lt, oi_eq, oi_lt0, oi_le0, oi_0lt, oi_0le, oi_eq0, oi_eq1, bI_eq0, bI_ne0, bI_eq1, decide_eq_true_eq, decide_eq_false_iff_not, lc_lt, lc_gt, lc_eq, lc_ge, lc_le, ol_lt, ol_eq, ne_eq, Int.not_lt, Int.not_le, Bool.not_eq_true, Bool.not_eq_false, Decidable.not_not, not_true_eq_false, not_false_eq_true, Bool.true_eq_false, Bool.false_eq_true] at c) <;> (first | (exfalso; omega) | ((with_reducible refine hJ _ _ _ _ ?_); conv => whnf) | (conv => whnf))
      exact h
    | succ q ih =>
      intro i hi
      have nx := ih (i + 1) (by omega)
      rw [← flL_s] at nx
      refine hJ _ _ _ _ ?_
      conv => whnf
      refine ⟨fun c => ?_, fun c => ?_⟩ <;> (try simp (disch := omega) only [oi_le, oi_lt, oi_eq, oi_lt0, oi_le0, oi_0lt, oi_0le, oi_eq0, oi_eq1, bI_eq0, bI_ne0, bI_eq1, decide_eq_true_eq, decide_eq_false_iff_not, lc_lt, lc_gt, lc_eq, lc_ge, lc_le, ol_lt, ol_eq, ne_eq, Int.not_lt, Int.not_le, Bool.not_eq_true, Bool.not_eq_false, Decidable.not_not, not_true_eq_false, not_false_eq_true, Bool.true_eq_false, Bool.false_eq_true] at c) <;> (first | (exfalso; omega) | ((with_reducible refine hJ _ _ _ _ ?_); conv => whnf) | (conv => whnf))
      refine ⟨(oi_in (by omega) (by omega)).mpr ⟨by omega, by omega⟩, ?_⟩
      conv => whnf
      rw [oi_nat (by omega) (by omega), Int.toNat_natCast, oi_succ]
      exact nx
  have st := loop 60 0 (by omega)
  rw [flL_0] at st
  exact st
def cw (o : Nat) : Nat → Nat → Nat
  | 0, i => if i = 0 then 1 else 0
  | n + 1, i => cw o n i * (16 - o) + (if i = 0 then 0 else cw o n (i - 1) * o)
def sm (f : Nat → Nat) : Nat → Nat
  | 0 => 0
  | i + 1 => sm f i + f i
theorem cw_hi (o : Nat) : ∀ {n i : Nat}, n < i → cw o n i = 0
  | 0, i, h => by rw [cw, if_neg (by omega)]
  | n + 1, i, h => by rw [cw, cw_hi o (by omega), if_neg (by omega), cw_hi o (by omega)]; simp
theorem cw_sm (o n : Nat) : ∀ k, sm (cw o (n + 1)) (k + 1) = (16 - o) * sm (cw o n) (k + 1) + o * sm (cw o n) k
  | 0 => by simp [sm, cw, Nat.mul_comm]
  | k + 1 => by
    rw [sm, cw_sm o n k, cw, if_neg (by omega), Nat.add_sub_cancel, show sm (cw o n) (k + 1 + 1) = sm (cw o n) (k + 1) + cw o n (k + 1) from rfl, show sm (cw o n) (k + 1) = sm (cw o n) k + cw o n k from rfl, Nat.mul_comm (cw o n (k + 1)), Nat.mul_comm (cw o n k)]
    simp only [Nat.mul_add]
    omega
theorem cw_all {o : Nat} (ho : o ≤ 16) : ∀ {n : Nat}, n ≤ 7 → sm (cw o n) 8 = 16 ^ n
  | 0, _ => by simp [sm, cw]
  | n + 1, h => by
    have ih := cw_all ho (n := n) (by omega)
    rw [cw_sm]
    have e : sm (cw o n) 8 = sm (cw o n) 7 + cw o n 7 := rfl
    rw [cw_hi o (show n < 7 by omega)] at e
    rw [show sm (cw o n) 7 = 16 ^ n by omega, ih, ← Nat.add_mul, show 16 - o + o = 16 by omega, Nat.pow_succ, Nat.mul_comm]
theorem sm_le {f g : Nat → Nat} : ∀ {k : Nat}, (∀ i, i < k → f i ≤ g i) → sm f k ≤ sm g k
  | 0, _ => Nat.le_refl 0
  | k + 1, h => by
    have := sm_le (f := f) (g := g) (k := k) (fun i hi => h i (by omega))
    have := h k (by omega)
    rw [sm, sm]
    omega
def nB (p : Nat → Bool) : Nat → Nat
  | 0 => 0
  | i + 1 => nB p i + (if p i then 1 else 0)
theorem nB_le (p : Nat → Bool) : ∀ i, nB p i ≤ i
  | 0 => Nat.le_refl 0
  | i + 1 => by
    have := nB_le p i
    rw [nB]
    split <;> omega
theorem nB_lt {p : Nat → Bool} {k : Nat} (hk : p k = false) : ∀ {i : Nat}, k < i → nB p i < i
  | 0, h => by omega
  | i + 1, h => by
    rw [nB]
    by_cases e : k = i
    · subst e
      rw [hk]
      have := nB_le p k
      simp
      omega
    · have := nB_lt hk (i := i) (by omega)
      split <;> omega
theorem cnt_low : ∀ a : Fin 128, cnt a.val = lowN a.val 7 := by decide +kernel
theorem lowN_nB (s : Nat) (p : Nat → Bool) : ∀ {i : Nat}, (∀ k, k < i → s.testBit k = p k) → lowN s i = nB p i
  | 0, _ => rfl
  | i + 1, h => by rw [lowN, nB, lowN_nB s p (fun k hk => h k (by omega)), h i (by omega)]
theorem nB_ext {p q : Nat → Bool} {c : Nat} (h1 : ∀ k, k < c → p k = q k) (h2 : ∀ k, c ≤ k → p k = false) : ∀ d, nB p (c + d) = nB q c
  | 0 => by
    have : ∀ i, i ≤ c → nB p i = nB q i := by
      intro i
      induction i with
      | zero => intro _; rfl
      | succ i ih => intro hi; rw [nB, nB, ih (by omega), h1 i (by omega)]
    exact this c (Nat.le_refl c)
  | d + 1 => by
    show nB p (c + d + 1) = _
    rw [nB, nB_ext h1 h2 d, h2 (c + d) (by omega)]
    rfl
/-- how many may cough -/
def mayC (h : Nat → Int) : Nat := nB (talkS h) (h 1).toNat
theorem mayC_cnt {h : Nat → Int} (hw : WF h) : cnt (rem (awS h) (h 8).toNat) = mayC h := by
  have b := hw.1
  have ha := awS_lt h
  have hq : (h 8).toNat < 7 := by omega
  rw [cnt_low ⟨_, rem_lt ha hq⟩]
  dsimp only
  rw [lowN_nB _ (fun k => decide ((k : Int) < h 1) && talkS h k) (fun k hk => by
    rw [rem_bit ha hq hk, awS_bit]
    unfold talkS
    by_cases c : (k : Int) < h 1
    · rw [decide_eq_true c, Bool.true_and]
      by_cases c2 : (k : Int) = h 8
      · rw [decide_eq_false (show ¬ k ≠ (h 8).toNat by omega), decide_eq_false (show ¬ ((k : Int) ≠ h 8) by omega)]
        simp
      · rw [decide_eq_true (show k ≠ (h 8).toNat by omega), decide_eq_true (show (k : Int) ≠ h 8 from c2), Bool.and_true, Bool.true_and]
        exact decide_eq_decide.mpr ⟨fun z => z.2.2, fun z => ⟨hk, c, z⟩⟩
    · rw [decide_eq_false c, Bool.false_and, decide_eq_false (by omega), Bool.false_and])]
  unfold mayC
  have := nB_ext (p := fun k => decide ((k : Int) < h 1) && talkS h k) (q := talkS h) (c := (h 1).toNat) (fun k hk => by
    try dsimp only
    rw [decide_eq_true (show (k : Int) < h 1 by omega), Bool.true_and]) (fun k hk => by
    try dsimp only
    rw [decide_eq_false (show ¬ (k : Int) < h 1 by omega), Bool.false_and]) (7 - (h 1).toNat)
  rw [show (h 1).toNat + (7 - (h 1).toNat) = 7 by omega] at this
  exact this
theorem mayC_le {h : Nat → Int} (hw : WF h) : mayC h ≤ 6 := by
  have b := hw.1
  unfold mayC
  by_cases e : h 1 = 0
  · rw [e]; exact Nat.zero_le _
  · have : talkS h (h 8).toNat = false := by
      unfold talkS
      rw [decide_eq_false (show ¬ (((h 8).toNat : Nat) : Int) ≠ h 8 by omega)]
      rfl
    have := nB_lt this (i := (h 1).toNat) (by omega)
    omega
def WR (σ : AM) (t : Nat) (w : Nat → Nat) : Prop := ∀ i, i < 8 → σ.2.1 t 0 i = Int64.ofInt (w i : Nat)
/-- longs alone change, of one row -/
def ChL (t : Nat) (σ σ' : AM) : Prop := σ'.1 = σ.1 ∧ σ'.2.2 = σ.2.2 ∧ ∀ t' i j, ¬ (t' = t ∧ i = 0) → σ'.2.1 t' i j = σ.2.1 t' i j
theorem ChL.rf {t : Nat} {σ : AM} : ChL t σ σ := ⟨rfl, rfl, fun _ _ _ _ => rfl⟩
theorem ChL.tr {t : Nat} {σ σ' σ'' : AM} (h : ChL t σ σ') (h2 : ChL t σ' σ'') : ChL t σ σ'' := ⟨h2.1.trans h.1, h2.2.1.trans h.2.1, fun a b c d => (h2.2.2 a b c d).trans (h.2.2 a b c d)⟩
theorem ChL.w {t : Nat} {σ : AM} {j : Nat} {x : Int64} : ChL t σ (wL σ t 0 j x) := ⟨rfl, rfl, fun a b c d => by rw [wL1, if_neg (by omega)]⟩
theorem HRep.i1 {σ σ' : AM} {n : Nat} {h : Nat → Int} (hr : HRep σ n h) (e : σ'.1 = σ.1) : HRep σ' n h := by
  unfold HRep at hr ⊢
  rw [e]
  exact hr
theorem M0.i1 {σ σ' : AM} {h : Nat → Int} (hm : M0 σ h) (e : σ'.1 = σ.1) : M0 σ' h := by
  unfold M0 at hm ⊢
  rw [e]
  exact hm
theorem upW {σ : AM} {t o n i : Nat} (hi : i < 8) (hW : WR σ t (fun j => if i < j then cw o (n + 1) j else cw o n j)) {v : Int} (hv : v = (cw o (n + 1) i : Nat)) : WR (wL σ t 0 i (Int64.ofInt v)) t (fun j => if i ≤ j then cw o (n + 1) j else cw o n j) := by
  intro j hj
  rw [wL1]
  dsimp only
  by_cases e : j = i
  · subst e
    rw [if_pos ⟨rfl, rfl, rfl⟩, if_pos (Nat.le_refl j), hv]
  · rw [if_neg (fun z => e z.2.2), hW j hj]
    dsimp only
    by_cases e2 : i < j
    · rw [if_pos e2, if_pos (by omega)]
    · rw [if_neg e2, if_neg (by omega)]
theorem s_weighCoughs {CALL : CT} (hC : RuleAll CALL) {r : Nat} {σ : AM} {K : AV → AM → Prop} {n : Nat} {h0 : Nat → Int} (hn : NH σ n h0) (h : ∀ σ' : AM, ChL 21 σ σ' → WR σ' 21 (cw (h0 4).toNat (mayC h0)) → K unset σ') : CALL (r + 3) n_x_weighCoughs [.inr (.inr (1, 0))] σ K := by
  refine r_x_weighCoughs hC (fun J hJ => ?_)
  refine hJ _ _ _ _ ?_
  conv => whnf
  obtain ⟨n45, hnn, hr, hm, ⟨hw, hw67⟩, h59⟩ := id hn
  have b := hw.1
  have nh : ∀ σ1 : AM, ChL 21 σ σ1 → HRep σ1 n h0 ∧ σ1.2.2 1 0 11 = n := fun σ1 hc => ⟨hr.i1 hc.1, by rw [hc.2.1]; exact hnn⟩
  have down : ∀ (i k : Nat) (m : Nat) (σ1 : AM), i ≤ 7 → ChL 21 σ σ1 → WR σ1 21 (fun j => if i < j then cw (h0 4).toNat (k + 1) j else cw (h0 4).toNat k j) → (∀ (σ2 : AM), ChL 21 σ σ2 → WR σ2 21 (fun j => if 0 < j then cw (h0 4).toNat (k + 1) j else cw (h0 4).toNat k j) → J 114 [.inr (.inr (1, 0)), .inl (Int32.ofInt (m : Int)), .inl (Int32.ofInt (0 : Nat))] [] σ2) → J 62 [.inr (.inr (1, 0)), .inl (Int32.ofInt (m : Int)), .inl (Int32.ofInt (i : Int))] [] σ1 := by
    intro i
    induction i with
    | zero =>
      intro k m σ1 hi f1 f2 hk
      refine hJ _ _ _ _ ?_
      conv => whnf
      refine ⟨fun c => ?_, fun c => ?_⟩ <;> (try simp (disch := omega) only [oi_le, oi_lt, oi_eq, oi_lt0, oi_le0, oi_0lt, oi_0le, oi_eq0, oi_eq1, bI_eq0, bI_ne0, bI_eq1, decide_eq_true_eq, decide_eq_false_iff_not, lc_lt, lc_gt, lc_eq, lc_ge, lc_le, ol_lt, ol_eq, ne_eq, Int.not_lt, Int.not_le, Bool.not_eq_true, Bool.not_eq_false, Decidable.not_not, not_true_eq_false, not_false_eq_true, Bool.true_eq_false, Bool.false_eq_true] at c) <;> (first | (exfalso; omega) | ((fail_if_success with_reducible refine hJ _ _ _ _ ?_); conv => whnf) | skip)
      exact hk σ1 f1 f2
    | succ i ih =>
      intro k m σ1 hi f1 f2 hk
      have n1 := nh σ1 f1
      have w1 := f2 (i + 1) (by omega)
      have w0 := f2 i (by omega)
      dsimp only at w1 w0
      rw [if_neg (by omega)] at w1 w0
      refine hJ _ _ _ _ ?_
      conv => whnf
      refine ⟨fun c => ?_, fun c => ?_⟩ <;> (try simp (disch := omega) only [oi_le, oi_lt, oi_eq, oi_lt0, oi_le0, oi_0lt, oi_0le, oi_eq0, oi_eq1, bI_eq0, bI_ne0, bI_eq1, decide_eq_true_eq, decide_eq_false_iff_not, lc_lt, lc_gt, lc_eq, lc_ge, lc_le, ol_lt, ol_eq, ne_eq, Int.not_lt, Int.not_le, Bool.not_eq_true, Bool.not_eq_false, Decidable.not_not, not_true_eq_false, not_false_eq_true, Bool.true_eq_false, Bool.false_eq_true] at c) <;> (first | (exfalso; omega) | ((with_reducible refine hJ _ _ _ _ ?_); conv => whnf) | (conv => whnf))
      refine ⟨(oi_in (by omega) (by omega)).mpr ⟨by omega, by omega⟩, ?_⟩
      conv => whnf
      rw [n1.2]
      refine ⟨by omega, ?_⟩
      conv => whnf
      rw [n1.1.2.2.2.2.1, oi_sub, oi_sub, oi_l (by omega) (by omega)]
      refine ⟨(oi_in (by omega) (by omega)).mpr ⟨by omega, by omega⟩, ?_⟩
      conv => whnf
      rw [n1.2]
      refine ⟨by omega, ?_⟩
      conv => whnf
      rw [n1.1.2.2.2.2.1, oi_l (by omega) (by omega)]
      refine ⟨(oi_in (by omega) (by omega)).mpr ⟨by omega, by omega⟩, ?_⟩
      conv => whnf
      rw [oi_nat (by omega) (by omega), oi_nat (by omega) (by omega), Int.toNat_natCast, show (((i + 1 : Nat) : Int) - 1).toNat = i by omega, w1, w0, ol_mul, ol_mul, ol_add, oi_add, show (((i + 1 : Nat)) : Int) + -1 = (i : Int) by omega]
      refine ih k m _ (by omega) (f1.tr ChL.w) (upW (by omega) f2 ?_) hk
      rw [cw, if_neg (by omega), Nat.add_sub_cancel]
      have e4 : h0 4 = (((h0 4).toNat : Nat) : Int) := by omega
      rw [show (16 : Int) - h0 4 = ((16 - (h0 4).toNat : Nat) : Int) by omega, show ((cw (h0 4).toNat k i : Nat) : Int) * h0 4 = ((cw (h0 4).toNat k i : Nat) : Int) * (((h0 4).toNat : Nat) : Int) by rw [← e4]]
      rw [Int.natCast_add, Int.natCast_mul, Int.natCast_mul]
  have loop : ∀ (q m : Nat) (x : AV) (σ1 : AM), m + q = (h0 1).toNat → ChL 21 σ σ1 → WR σ1 21 (cw (h0 4).toNat (nB (talkS h0) m)) → J 17 [.inr (.inr (1, 0)), .inl (Int32.ofInt (m : Int)), x] [] σ1 := by
    intro q
    induction q with
    | zero =>
      intro m x σ1 hi f1 f2
      have : m = (h0 1).toNat := by omega
      subst this
      have n1 := nh σ1 f1
      refine hJ _ _ _ _ ?_
      conv => whnf
      rw [n1.2]
      refine ⟨by omega, ?_⟩
      conv => whnf
      rw [n1.1.2.1]
      refine ⟨fun c => ?_, fun c => ?_⟩ <;> (try simp (disch := omega) only [oi_le, oi_lt, oi_eq, oi_lt0, oi_le0, oi_0lt, oi_0le, oi_eq0, oi_eq1, bI_eq0, bI_ne0, bI_eq1, decide_eq_true_eq, decide_eq_false_iff_not, lc_lt, lc_gt, lc_eq, lc_ge, lc_le, ol_lt, ol_eq, ne_eq, Int.not_lt, Int.not_le, Bool.not_eq_true, Bool.not_eq_false, Decidable.not_not, not_true_eq_false, not_false_eq_true, Bool.true_eq_false, Bool.false_eq_true] at c) <;> (first | (exfalso; omega) | ((with_reducible refine hJ _ _ _ _ ?_); conv => whnf) | (conv => whnf))
      exact h σ1 f1 f2
    | succ q ih =>
      intro m x σ1 hi f1 f2
      have n1 := nh σ1 f1
      have hmm : (m : Int) < h0 1 := by omega
      have skip : talkS h0 m = false → J 134 [.inr (.inr (1, 0)), .inl (Int32.ofInt (m : Int)), x] [] σ1 := by
        intro ht
        refine hJ _ _ _ _ ?_
        conv => whnf
        rw [oi_succ]
        refine ih (m + 1) x σ1 (by omega) f1 ?_
        rw [nB, ht, if_neg (by decide), Nat.add_zero]
        exact f2
      refine hJ _ _ _ _ ?_
      conv => whnf
      rw [n1.2]
      refine ⟨by omega, ?_⟩
      conv => whnf
      rw [n1.1.2.1]
      refine ⟨fun c => ?_, fun c => ?_⟩ <;> (try simp (disch := omega) only [oi_le, oi_lt, oi_eq, oi_lt0, oi_le0, oi_0lt, oi_0le, oi_eq0, oi_eq1, bI_eq0, bI_ne0, bI_eq1, decide_eq_true_eq, decide_eq_false_iff_not, lc_lt, lc_gt, lc_eq, lc_ge, lc_le, ol_lt, ol_eq, ne_eq, Int.not_lt, Int.not_le, Bool.not_eq_true, Bool.not_eq_false, Decidable.not_not, not_true_eq_false, not_false_eq_true, Bool.true_eq_false, Bool.false_eq_true] at c) <;> (first | (exfalso; omega) | ((with_reducible refine hJ _ _ _ _ ?_); conv => whnf) | (conv => whnf))
      rw [n1.2]
      refine ⟨by omega, ?_⟩
      conv => whnf
      refine s_isAwake hC n1.1 hw hmm ?_
      conv => whnf
      refine ⟨fun c2 => ?_, fun c2 => ?_⟩ <;> (try simp (disch := omega) only [oi_le, oi_lt, oi_eq, oi_lt0, oi_le0, oi_0lt, oi_0le, oi_eq0, oi_eq1, bI_eq0, bI_ne0, bI_eq1, decide_eq_true_eq, decide_eq_false_iff_not, lc_lt, lc_gt, lc_eq, lc_ge, lc_le, ol_lt, ol_eq, ne_eq, Int.not_lt, Int.not_le, Bool.not_eq_true, Bool.not_eq_false, Decidable.not_not, not_true_eq_false, not_false_eq_true, Bool.true_eq_false, Bool.false_eq_true] at c2) <;> (first | (exfalso; omega) | ((fail_if_success with_reducible refine hJ _ _ _ _ ?_); conv => whnf) | skip)
      · exact skip (by unfold talkS; rw [decide_eq_false c2, Bool.and_false])
      · rw [n1.2]
        refine ⟨by omega, ?_⟩
        conv => whnf
        rw [n1.1.2.2.2.2.2.2.2.2.1]
        refine ⟨fun c3 => ?_, fun c3 => ?_⟩ <;> (try simp (disch := omega) only [oi_le, oi_lt, oi_eq, oi_lt0, oi_le0, oi_0lt, oi_0le, oi_eq0, oi_eq1, bI_eq0, bI_ne0, bI_eq1, decide_eq_true_eq, decide_eq_false_iff_not, lc_lt, lc_gt, lc_eq, lc_ge, lc_le, ol_lt, ol_eq, ne_eq, Int.not_lt, Int.not_le, Bool.not_eq_true, Bool.not_eq_false, Decidable.not_not, not_true_eq_false, not_false_eq_true, Bool.true_eq_false, Bool.false_eq_true] at c3) <;> (first | (exfalso; omega) | ((with_reducible refine hJ _ _ _ _ ?_); conv => whnf) | (conv => whnf))
        · have ht : talkS h0 m = true := by
            unfold talkS
            rw [decide_eq_true c2, decide_eq_true (show (m : Int) ≠ h0 8 from c3)]
            rfl
          refine down 7 (nB (talkS h0) m) m σ1 (by omega) f1 (fun j hj => ?_) (fun σ2 k1 k2 => ?_)
          · rw [f2 j hj]
            dsimp only
            rw [if_neg (by omega)]
          · have n2 := nh σ2 k1
            have w0 := k2 0 (by omega)
            dsimp only at w0
            rw [if_neg (by omega)] at w0
            refine hJ _ _ _ _ ?_
            conv => whnf
            refine ⟨(oi_in (by omega) (by omega)).mpr ⟨by omega, by omega⟩, ?_⟩
            conv => whnf
            rw [n2.2]
            refine ⟨by omega, ?_⟩
            conv => whnf
            rw [n2.1.2.2.2.2.1, oi_sub, oi_l (by omega) (by omega)]
            refine ⟨(oi_in (by omega) (by omega)).mpr ⟨by omega, by omega⟩, ?_⟩
            conv => whnf
            rw [show (Int32.ofInt 0).toNatClampNeg = 0 from rfl, w0, ol_mul]
            refine hJ _ _ _ _ ?_
            conv => whnf
            rw [oi_succ]
            refine ih (m + 1) _ _ (by omega) (k1.tr ChL.w) ?_
            rw [nB, ht, if_pos rfl]
            have := upW (i := 0) (by omega) k2 (v := ((cw (h0 4).toNat (nB (talkS h0) m) 0 : Nat) : Int) * (16 - h0 4)) (by
              rw [cw, if_pos rfl, Nat.add_zero, show (16 : Int) - h0 4 = ((16 - (h0 4).toNat : Nat) : Int) by omega, Int.natCast_mul])
            intro j hj
            have := this j hj
            dsimp only at this
            rw [if_pos (by omega)] at this
            exact this
        · exact skip (by unfold talkS; rw [decide_eq_false (show ¬ ((m : Int) ≠ h0 8) by omega)]; rfl)
  refine s_fill21 hC ?_
  conv => whnf
  refine ⟨(oi_in (by omega) (by omega)).mpr ⟨by omega, by omega⟩, ?_⟩
  conv => whnf
  rw [show (Int32.ofInt 0).toNatClampNeg = 0 from rfl]
  refine loop (h0 1).toNat 0 _ _ (by omega) (ChL.tr (⟨rfl, rfl, fun t' i j hne => ?_⟩ : ChL 21 σ (flL σ 21 0 8)) ChL.w) ?_
  · show (if t' = 21 ∧ i = 0 ∧ j < 8 then Int64.ofInt 0 else σ.2.1 t' i j) = _
    rw [if_neg (by omega)]
  · intro i hi
    rw [wL1]
    by_cases e : i = 0
    · subst e
      rw [if_pos ⟨rfl, rfl, rfl⟩]
      rfl
    · rw [if_neg (by omega)]
      show (if 21 = 21 ∧ 0 = 0 ∧ i < 8 then Int64.ofInt 0 else σ.2.1 21 0 i) = _
      rw [if_pos ⟨rfl, rfl, hi⟩]
      show Int64.ofInt 0 = Int64.ofInt (((if i = 0 then 1 else 0 : Nat)) : Int)
      rw [if_neg e]
      rfl
