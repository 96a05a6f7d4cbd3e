theorem firstF_snoc {p : Nat → Bool} : ∀ (k i : Nat), firstF p (k + 1) i = match firstF p k i with | some t => some t | none => if p (i + k) then some (i + k) else none
  | 0, i => by rw [firstF, firstF, firstF]; rfl
  | k + 1, i => by
    have e1 : firstF p (k + 1 + 1) i = if p i then some i else firstF p (k + 1) (i + 1) := rfl
    have e2 : firstF p (k + 1) i = if p i then some i else firstF p k (i + 1) := rfl
    rw [e1, e2]
    by_cases hp : p i = true
    · rw [if_pos hp, if_pos hp]
    · rw [if_neg hp, if_neg hp, firstF_snoc k (i + 1), show i + 1 + k = i + (k + 1) by omega]
theorem firstF_cong {p q : Nat → Bool} : ∀ {k i : Nat}, (∀ j, i ≤ j → j < i + k → p j = q j) → firstF p k i = firstF q k i
  | 0, i, _ => rfl
  | k + 1, i, h => by rw [firstF, firstF, h i (by omega) (by omega), firstF_cong (fun j a b => h j (by omega) (by omega))]
def nextS (g : Nat → Nat) (c t s : Nat) : Option Nat := firstF (fun nx => opn g t s nx && decide (1 + Lo g c nx (s ||| 2 ^ nx) = Lo g c t s)) c 0
def pth (g : Nat → Nat) (c : Nat) : Nat → Nat → Nat → Nat
  | 0, t, _ => t
  | i + 1, t, s => match nextS g c t s with
    | some nx => pth g c i nx (s ||| 2 ^ nx)
    | none => t
/-- the longest so far, over the topics tried -/
def lM (g : Nat → Nat) (c t s nx : Nat) : Nat := mxN (fun nx => if opn g t s nx then 1 + Lo g c nx (s ||| 2 ^ nx) else 0) nx
def lF (g : Nat → Nat) (c t s nx : Nat) : Option Nat := firstF (fun k => opn g t s k && decide (1 + Lo g c k (s ||| 2 ^ k) = lM g c t s nx)) nx 0
def lP (g : Nat → Nat) (c t s nx i : Nat) : Nat := match lF g c t s nx with
  | some k => pth g c i k (s ||| 2 ^ k)
  | none => t
theorem lM_s (g : Nat → Nat) (c t s nx : Nat) : lM g c t s (nx + 1) = max (lM g c t s nx) (if opn g t s nx then 1 + Lo g c nx (s ||| 2 ^ nx) else 0) := rfl
theorem lM_ge {g : Nat → Nat} {c t s nx k : Nat} (hk : k < nx) (ho : opn g t s k = true) : 1 + Lo g c k (s ||| 2 ^ k) ≤ lM g c t s nx := by
  have := mxN_ge (f := fun nx => if opn g t s nx then 1 + Lo g c nx (s ||| 2 ^ nx) else 0) hk
  simp only [ho, if_true] at this
  exact this
/-- not open: nothing changes -/
theorem l_no {g : Nat → Nat} {c t s nx : Nat} (ho : opn g t s nx = false) : lM g c t s (nx + 1) = lM g c t s nx ∧ lF g c t s (nx + 1) = lF g c t s nx := by
  have e : lM g c t s (nx + 1) = lM g c t s nx := by
    rw [lM_s, ho, if_neg (by decide)]
    exact Nat.max_eq_left (Nat.zero_le _)
  refine ⟨e, ?_⟩
  unfold lF
  rw [e, firstF_snoc, Nat.zero_add, ho]
  cases firstF (fun k => opn g t s k && decide (1 + Lo g c k (s ||| 2 ^ k) = lM g c t s nx)) nx 0 with
  | some k => rfl
  | none => simp
/-- one that is longer -/
theorem l_up {g : Nat → Nat} {c t s nx : Nat} (ho : opn g t s nx = true) (hl : lM g c t s nx < 1 + Lo g c nx (s ||| 2 ^ nx)) : lM g c t s (nx + 1) = 1 + Lo g c nx (s ||| 2 ^ nx) ∧ lF g c t s (nx + 1) = some nx := by
  have e : lM g c t s (nx + 1) = 1 + Lo g c nx (s ||| 2 ^ nx) := by
    rw [lM_s, ho, if_pos rfl]
    omega
  refine ⟨e, ?_⟩
  unfold lF
  rw [e, firstF_snoc, Nat.zero_add]
  have hn : firstF (fun k => opn g t s k && decide (1 + Lo g c k (s ||| 2 ^ k) = 1 + Lo g c nx (s ||| 2 ^ nx))) nx 0 = none := by
    rw [firstF_no]
    intro j _ hj
    cases hoj : opn g t s j with
    | false => rfl
    | true =>
      have := lM_ge (c := c) (nx := nx) (by omega) hoj
      rw [Bool.true_and]
      exact decide_eq_false (by omega)
  rw [hn]
  simp [ho]
theorem mxN_ex {f : Nat → Nat} : ∀ {i : Nat}, 0 < mxN f i → ∃ k, k < i ∧ f k = mxN f i
  | 0, h => by rw [mxN] at h; omega
  | i + 1, h => by
    rw [mxN] at h ⊢
    by_cases e : mxN f i ≤ f i
    · exact ⟨i, by omega, by omega⟩
    · obtain ⟨k, h1, h2⟩ := mxN_ex (f := f) (i := i) (by omega)
      exact ⟨k, by omega, by omega⟩
/-- one that isn't -/
theorem l_eq {g : Nat → Nat} {c t s nx : Nat} (ho : opn g t s nx = true) (hl : 1 + Lo g c nx (s ||| 2 ^ nx) ≤ lM g c t s nx) : lM g c t s (nx + 1) = lM g c t s nx ∧ lF g c t s (nx + 1) = lF g c t s nx := by
  have e : lM g c t s (nx + 1) = lM g c t s nx := by
    rw [lM_s, ho, if_pos rfl]
    omega
  refine ⟨e, ?_⟩
  unfold lF
  rw [e, firstF_snoc]
  cases hf : firstF (fun k => opn g t s k && decide (1 + Lo g c k (s ||| 2 ^ k) = lM g c t s nx)) nx 0 with
  | some k => rfl
  | none =>
    obtain ⟨k, h1, h2⟩ := mxN_ex (f := fun nx => if opn g t s nx then 1 + Lo g c nx (s ||| 2 ^ nx) else 0) (i := nx) (by show 0 < lM g c t s nx; omega)
    rw [firstF_no] at hf
    have := hf k (by omega) (by omega)
    cases hok : opn g t s k with
    | true =>
      simp only [hok, if_true] at h2
      rw [hok, Bool.true_and] at this
      have := of_decide_eq_false this
      exact absurd h2 this
    | false =>
      simp only [hok] at h2
      have h3 : 0 < lM g c t s nx := by omega
      unfold lM at h3
      rw [← h2] at h3
      simp at h3
theorem l_c {g : Nat → Nat} {c : Nat} (hc : c ≤ 6) (t s : Nat) : lM g c t s c = Lo g c t s ∧ lF g c t s c = nextS g c t s := by
  have e : lM g c t s c = Lo g c t s := (Lo_eq hc t s).symm
  refine ⟨e, ?_⟩
  unfold lF nextS
  rw [e]
def goS (t i j : Nat) : Prop := i = 0 ∧ ((t = 16 ∧ j = 2) ∨ t = 17 ∨ t = 18)
theorem Ch.cpI {S : Nat → Nat → Nat → Prop} {σ : AM} {t0 i0 t1 i1 sp dp n : Nat} (h : ∀ j, S t1 i1 j) : Ch S σ (cpI σ t0 i0 t1 i1 sp dp n) := ⟨fun t i j q => by rw [cpI1, if_neg (fun z => q (by rw [z.1, z.2.1]; exact h j))], rfl⟩
/-- what a step of talk finds -/
def goR (σ : AM) (d : Nat) (p : Nat → Nat) (len : Nat) (q : Nat → Nat) : Prop := (∀ i, i < d → σ.1 17 0 i = Int32.ofInt (p i : Nat)) ∧ σ.1 16 0 2 = Int32.ofInt (len : Nat) ∧ ∀ i, i < len → σ.1 18 0 i = Int32.ofInt (q i : Nat)
def goQ2 (g : Nat → Nat) (c : Nat) (p : Nat → Nat) (len : Nat) (q : Nat → Nat) (t d s nx i : Nat) : Nat := if len < d + 1 + lM g c t s nx then (if i < d then p i else if i = d then t else lP g c t s nx (i - d - 1)) else q i
theorem s_goOn1 {CALL : CT} (hC : RuleAll CALL) {n r : Nat} {h0 : Nat → Int} {σ : AM} {K : AV → AM → Prop} {t d s len : Nat} {p q : Nat → Nat} (hr : HRep σ n h0) (hw : WF h0) (ht : (t : Int) < h0 0) (hs : s < 64) (hd : d ≤ lowN s (h0 0).toNat) (hts : s.testBit t = false) (hg : goR σ d p len q) (hlen : len ≤ 6) (rec : ∀ (nx len' : Nat) (p' q' : Nat → Nat) (σ1 : AM) (K' : AV → AM → Prop), (nx : Int) < h0 0 → opn (nxS h0) t (s ||| 2 ^ t) nx = true → HRep σ1 n h0 → goR σ1 (d + 1) p' len' q' → len' ≤ 6 → (∀ σ2 : AM, Ch goS σ1 σ2 → goR σ2 (d + 1) p' (max len' (d + 2 + Lo (nxS h0) (h0 0).toNat nx (s ||| 2 ^ t ||| 2 ^ nx))) (fun i => if len' < d + 2 + Lo (nxS h0) (h0 0).toNat nx (s ||| 2 ^ t ||| 2 ^ nx) then (if i < d + 1 then p' i else pth (nxS h0) (h0 0).toNat (i - (d + 1)) nx (s ||| 2 ^ t ||| 2 ^ nx)) else q' i) → K' unset σ2) → CALL (r + 1) n_Talk_goOn [.inr (.inr (16, 0)), .inr (.inr (23, n)), .inl (Int32.ofInt (nx : Int)), .inl (Int32.ofInt ((d + 1 : Nat) : Int)), .inl (Int32.ofInt ((s ||| 2 ^ t : Nat) : Int))] σ1 K') (h : ∀ σ2 : AM, Ch goS σ σ2 → goR σ2 d p (max len (d + 1 + Lo (nxS h0) (h0 0).toNat t (s ||| 2 ^ t))) (fun i => if len < d + 1 + Lo (nxS h0) (h0 0).toNat t (s ||| 2 ^ t) then (if i < d then p i else pth (nxS h0) (h0 0).toNat (i - d) t (s ||| 2 ^ t)) else q i) → K unset σ2) : CALL (r + 2) n_Talk_goOn [.inr (.inr (16, 0)), .inr (.inr (23, n)), .inl (Int32.ofInt (t : Int)), .inl (Int32.ofInt (d : Int)), .inl (Int32.ofInt (s : Int))] σ K := by
  have b := hw.1
  have hc6 : (h0 0).toNat ≤ 6 := by omega
  have hnl := (nxS_lt hw ht).1
  have lw := lowN_or hts (c := (h0 0).toNat)
  rw [if_pos (by omega)] at lw
  have lw2 := lowN_le (s ||| 2 ^ t) (h0 0).toNat
  have hs2 : s ||| 2 ^ t < 64 := Nat.or_lt_two_pow (n := 6) hs (Nat.pow_lt_pow_right (by omega) (by omega))
  obtain ⟨g1, g2, g3⟩ := hg
  have fr : ∀ σ1 : AM, Ch goS σ σ1 → HRep σ1 n h0 := by
    intro σ1 hc
    refine hr.fr (S := fun t i => i = 0 ∧ (t = 16 ∨ t = 17 ∨ t = 18)) (fun t i hn => ⟨?_, by rw [hc.2], by rw [hc.2]⟩) (fun t a b z => by omega)
    funext j
    exact hc.1 t i j (fun z => hn (by unfold goS at z; omega))
  refine r_Talk_goOn hC (fun J hJ => ?_)
  have lobd : ∀ nx, opn (nxS h0) t (s ||| 2 ^ t) nx = true → nx < (h0 0).toNat → d + 2 + Lo (nxS h0) (h0 0).toNat nx (s ||| 2 ^ t ||| 2 ^ nx) ≤ 6 := by
    intro nx ho hn
    have h1 := @Lo_bd (nxS h0) (h0 0).toNat nx (s ||| 2 ^ t ||| 2 ^ nx)
    have h2 := lowN_or (opn_s ho) (c := (h0 0).toNat)
    rw [if_pos hn] at h2
    have h3 := lowN_le (s ||| 2 ^ t ||| 2 ^ nx) (h0 0).toNat
    omega
  have lmbd : ∀ nx, nx ≤ (h0 0).toNat → d + 1 + lM (nxS h0) (h0 0).toNat t (s ||| 2 ^ t) nx ≤ 6 := by
    intro nx hn
    have : lM (nxS h0) (h0 0).toNat t (s ||| 2 ^ t) nx ≤ 6 - (d + 1) := mxN_bd (fun k hk => by
      split
      · rename_i ho
        have := lobd k ho (by omega)
        omega
      · omega)
    omega
  have loop : ∀ (k nx : Nat) (σ1 : AM), nx + k = (h0 0).toNat → Ch goS σ σ1 → goR σ1 (d + 1) (fun i => if i < d then p i else t) (max len (d + 1 + lM (nxS h0) (h0 0).toNat t (s ||| 2 ^ t) nx)) (goQ2 (nxS h0) (h0 0).toNat p len q t d (s ||| 2 ^ t) nx) → J 71 [.inr (.inr (16, 0)), .inr (.inr (23, n)), .inl (Int32.ofInt (t : Int)), .inl (Int32.ofInt (d : Int)), .inl (Int32.ofInt (s : Int)), .inl (Int32.ofInt ((s ||| 2 ^ t : Nat) : Int)), .inl (Int32.ofInt ((nxS h0 t &&& (63 - (s ||| 2 ^ t)) : Nat) : Int)), .inl (Int32.ofInt (nx : Int))] [] σ1 := by
    intro k
    induction k with
    | zero =>
      intro nx σ1 hi f1 f2
      have : nx = (h0 0).toNat := by omega
      subst this
      refine hJ _ _ _ _ ?_
      conv => whnf
      rw [(fr σ1 f1).1]
      refine ⟨fun c => ?_, fun c => ?_⟩ <;> (try simp (disch := omega) only [oi_le, oi_lt, oi_eq, oi_lt0, oi_le0, oi_0lt, oi_0le, oi_eq0, oi_eq1, bI_eq0, bI_ne0, bI_eq1, decide_eq_true_eq, decide_eq_false_iff_not, lc_lt, lc_gt, lc_eq, lc_ge, lc_le, ol_lt, ol_eq, ne_eq, Int.not_lt, Int.not_le, Bool.not_eq_true, Bool.not_eq_false, Decidable.not_not, not_true_eq_false, not_false_eq_true, Bool.true_eq_false, Bool.false_eq_true] at c) <;> (first | (exfalso; omega) | ((with_reducible refine hJ _ _ _ _ ?_); conv => whnf) | (conv => whnf))
      have lc := l_c (g := nxS h0) hc6 t (s ||| 2 ^ t)
      refine h σ1 f1 ⟨fun i hi => ?_, ?_, fun i hi => ?_⟩
      · rw [f2.1 i (by omega)]
        dsimp only
        rw [if_pos hi]
      · rw [f2.2.1, lc.1]
      · rw [← lc.1] at hi ⊢
        rw [f2.2.2 i hi]
        congr 2
        unfold goQ2
        dsimp only
        by_cases c1 : len < d + 1 + lM (nxS h0) (h0 0).toNat t (s ||| 2 ^ t) (h0 0).toNat
        · rw [if_pos c1, if_pos c1]
          by_cases c2 : i < d
          · rw [if_pos c2, if_pos c2]
          · rw [if_neg c2, if_neg c2]
            by_cases c3 : i = d
            · rw [if_pos c3, c3, Nat.sub_self]
              rfl
            · rw [if_neg c3]
              obtain ⟨w, hw2⟩ : ∃ w, i - d = w + 1 := ⟨i - d - 1, by omega⟩
              rw [show i - d - 1 = w by omega, hw2]
              unfold lP
              rw [lc.2, pth]
        · rw [if_neg c1, if_neg c1]
    | succ k ih =>
      intro nx σ1 hi f1 f2
      have htn : (nx : Int) < h0 0 := by omega
      have hal : nxS h0 t &&& (63 - (s ||| 2 ^ t)) < 64 := Nat.and_lt_two_pow (n := 6) _ (by omega)
      refine hJ _ _ _ _ ?_
      conv => whnf
      rw [(fr σ1 f1).1]
      refine ⟨fun c => ?_, fun c => ?_⟩ <;> (try simp (disch := omega) only [oi_le, oi_lt, oi_eq, oi_lt0, oi_le0, oi_0lt, oi_0le, oi_eq0, oi_eq1, bI_eq0, bI_ne0, bI_eq1, decide_eq_true_eq, decide_eq_false_iff_not, lc_lt, lc_gt, lc_eq, lc_ge, lc_le, ol_lt, ol_eq, ne_eq, Int.not_lt, Int.not_le, Bool.not_eq_true, Bool.not_eq_false, Decidable.not_not, not_true_eq_false, not_false_eq_true, Bool.true_eq_false, Bool.false_eq_true] at c) <;> (first | (exfalso; omega) | ((with_reducible refine hJ _ _ _ _ ?_); conv => whnf) | (conv => whnf))
      refine s_has hC (by omega) (by omega) ?_
      conv => whnf
      rw [opn_and hs2 (by omega)]
      refine ⟨fun c2 => ?_, fun c2 => ?_⟩ <;> (try simp (disch := omega) only [oi_le, oi_lt, oi_eq, oi_lt0, oi_le0, oi_0lt, oi_0le, oi_eq0, oi_eq1, bI_eq0, bI_ne0, bI_eq1, decide_eq_true_eq, decide_eq_false_iff_not, lc_lt, lc_gt, lc_eq, lc_ge, lc_le, ol_lt, ol_eq, ne_eq, Int.not_lt, Int.not_le, Bool.not_eq_true, Bool.not_eq_false, Decidable.not_not, not_true_eq_false, not_false_eq_true, Bool.true_eq_false, Bool.false_eq_true] at c2) <;> (first | (exfalso; omega) | ((with_reducible refine hJ _ _ _ _ ?_); conv => whnf) | (conv => whnf))
      · rw [oi_succ]
        have ln := l_no (c := (h0 0).toNat) c2
        refine ih (nx + 1) σ1 (by omega) f1 ?_
        unfold goQ2 lP at f2 ⊢
        rw [ln.1, ln.2]
        exact f2
      · rw [oi_succ]
        have lb := lobd nx c2 (by omega)
        have mb := lmbd nx (by omega)
        refine rec nx _ _ _ σ1 _ htn c2 (fr σ1 f1) f2 (by omega) ?_
        intro σ2 e1 e2
        conv => whnf
        refine hJ _ _ _ _ ?_
        conv => whnf
        rw [oi_succ]
        refine ih (nx + 1) σ2 (by omega) (f1.tr e1) ?_
        by_cases cu : lM (nxS h0) (h0 0).toNat t (s ||| 2 ^ t) nx < 1 + Lo (nxS h0) (h0 0).toNat nx (s ||| 2 ^ t ||| 2 ^ nx)
        · have lu := l_up c2 cu
          refine ⟨e2.1, ?_, fun i hi => ?_⟩
          · rw [e2.2.1, lu.1]
            congr 2
            omega
          · rw [lu.1] at hi
            rw [e2.2.2 i (by omega)]
            congr 2
            unfold goQ2 lP
            rw [lu.1, lu.2]
            dsimp only
            generalize Lo (nxS h0) (h0 0).toNat nx (s ||| 2 ^ t ||| 2 ^ nx) = B at hi cu lb ⊢
            generalize lM (nxS h0) (h0 0).toNat t (s ||| 2 ^ t) nx = A at cu mb ⊢
            by_cases cl : len < d + 2 + B
            · rw [if_pos (show max len (d + 1 + A) < d + 2 + B by omega), if_pos (show len < d + 1 + (1 + B) by omega)]
              by_cases c3 : i < d
              · rw [if_pos (by omega), if_pos c3, if_pos c3]
              · by_cases c4 : i = d
                · rw [if_pos (by omega), if_neg c3, if_neg c3, if_pos c4]
                · rw [if_neg (by omega), if_neg c3, if_neg c4, show i - (d + 1) = i - d - 1 by omega]
            · rw [if_neg (show ¬ max len (d + 1 + A) < d + 2 + B by omega), if_neg (show ¬ len < d + 1 + A by omega), if_neg (show ¬ len < d + 1 + (1 + B) by omega)]
        · have le := l_eq (c := (h0 0).toNat) c2 (by omega)
          refine ⟨e2.1, ?_, fun i hi => ?_⟩
          · rw [e2.2.1, le.1]
            congr 2
            omega
          · rw [le.1] at hi
            rw [e2.2.2 i (by omega)]
            dsimp only
            rw [if_neg (by omega)]
            congr 2
            unfold goQ2 lP
            rw [le.1, le.2]
  have mid : ∀ σ1 : AM, Ch goS σ σ1 → goR σ1 (d + 1) (fun i => if i < d then p i else t) (max len (d + 1 + lM (nxS h0) (h0 0).toNat t (s ||| 2 ^ t) 0)) (goQ2 (nxS h0) (h0 0).toNat p len q t d (s ||| 2 ^ t) 0) → J 46 [.inr (.inr (16, 0)), .inr (.inr (23, n)), .inl (Int32.ofInt (t : Int)), .inl (Int32.ofInt (d : Int)), .inl (Int32.ofInt (s : Int)), unset, unset, unset] [] σ1 := by
    intro σ1 f1 f2
    refine hJ _ _ _ _ ?_
    conv => whnf
    refine s_with hC (b := true) (by omega) (by omega) ?_
    conv => whnf
    rw [show setW s t true = s ||| 2 ^ t from rfl]
    refine ⟨(oi_in (by omega) (by omega)).mpr ⟨by omega, by omega⟩, ?_⟩
    conv => whnf
    rw [oi_nat (by omega) (by omega), Int.toNat_natCast, hr_nx (fr σ1 f1) hw ht]
    have ia := inv_and ⟨nxS h0 t, hnl⟩ ⟨s ||| 2 ^ t, hs2⟩
    dsimp only at ia
    rw [ia]
    exact loop (h0 0).toNat 0 σ1 (by omega) f1 f2
  refine hJ _ _ _ _ ?_
  conv => whnf
  refine ⟨fun c => ?_, fun c => ?_⟩ <;> (try simp (disch := omega) only [oi_le, oi_lt, oi_eq, oi_lt0, oi_le0, oi_0lt, oi_0le, oi_eq0, oi_eq1, bI_eq0, bI_ne0, bI_eq1, decide_eq_true_eq, decide_eq_false_iff_not, lc_lt, lc_gt, lc_eq, lc_ge, lc_le, ol_lt, ol_eq, ne_eq, Int.not_lt, Int.not_le, Bool.not_eq_true, Bool.not_eq_false, Decidable.not_not, not_true_eq_false, not_false_eq_true, Bool.true_eq_false, Bool.false_eq_true] at c) <;> (first | (exfalso; omega) | ((with_reducible refine hJ _ _ _ _ ?_); conv => whnf) | (conv => whnf))
  refine ⟨(oi_in (by omega) (by omega)).mpr ⟨by omega, by omega⟩, ?_⟩
  conv => whnf
  rw [oi_nat (by omega) (by omega), Int.toNat_natCast, wI1, if_neg (by omega), g2]
  have l0 : lM (nxS h0) (h0 0).toNat t (s ||| 2 ^ t) 0 = 0 := rfl
  refine ⟨fun c2 => ?_, fun c2 => ?_⟩ <;> (try simp (disch := omega) only [oi_le, oi_lt, oi_eq, oi_lt0, oi_le0, oi_0lt, oi_0le, oi_eq0, oi_eq1, bI_eq0, bI_ne0, bI_eq1, decide_eq_true_eq, decide_eq_false_iff_not, lc_lt, lc_gt, lc_eq, lc_ge, lc_le, ol_lt, ol_eq, ne_eq, Int.not_lt, Int.not_le, Bool.not_eq_true, Bool.not_eq_false, Decidable.not_not, not_true_eq_false, not_false_eq_true, Bool.true_eq_false, Bool.false_eq_true] at c2) <;> (first | (exfalso; omega) | ((fail_if_success with_reducible refine hJ _ _ _ _ ?_); conv => whnf) | skip)
  · refine mid _ (Ch.wI ⟨rfl, Or.inr (Or.inl rfl)⟩) ⟨fun i hi => ?_, ?_, fun i hi => ?_⟩
    · rw [wI1]
      by_cases e : i = d
      · subst e
        rw [if_pos ⟨rfl, rfl, rfl⟩]
        dsimp only
        rw [if_neg (by omega)]
      · rw [if_neg (by omega), g1 i (by omega)]
        dsimp only
        rw [if_pos (by omega)]
    · rw [wI1, if_neg (by omega), g2, l0]
      congr 2
      omega
    · rw [l0] at hi
      rw [wI1, if_neg (by omega), g3 i (by omega)]
      unfold goQ2
      rw [l0, if_neg (by omega)]
  · rw [oi_succ]
    refine ⟨?_, ?_⟩
    · rw [wI1, if_pos ⟨rfl, rfl, rfl⟩]
      rw [oi_nat (by omega) (by omega), oi_nat (by omega) (by omega), oi_lt0 (by omega) (by omega), oi_lt0 (by omega) (by omega)]
      omega
    · conv => whnf
      rw [wI1, if_pos ⟨rfl, rfl, rfl⟩, show (Int32.ofInt 0).toNatClampNeg = 0 from rfl, oi_nat (by omega) (by omega), Int.toNat_natCast]
      refine mid _ (((Ch.wI ⟨rfl, Or.inr (Or.inl rfl)⟩).tr (Ch.wI ⟨rfl, Or.inl ⟨rfl, rfl⟩⟩)).tr (Ch.cpI (fun j => ⟨rfl, Or.inr (Or.inr rfl)⟩))) ⟨fun i hi => ?_, ?_, fun i hi => ?_⟩
      · rw [cpI1, if_neg (by omega), wI1, if_neg (by omega), wI1]
        by_cases e : i = d
        · subst e
          rw [if_pos ⟨rfl, rfl, rfl⟩]
          dsimp only
          rw [if_neg (by omega)]
        · rw [if_neg (by omega), g1 i (by omega)]
          dsimp only
          rw [if_pos (by omega)]
      · rw [cpI1, if_neg (by omega), wI1, if_pos ⟨rfl, rfl, rfl⟩, l0]
        congr 2
        omega
      · rw [l0] at hi
        rw [cpI1, if_pos ⟨rfl, rfl, by omega, by omega⟩, wI1, if_neg (by omega), wI1]
        unfold goQ2
        rw [l0, if_pos (show len < d + 1 + 0 by omega)]
        by_cases e : i = d
        · subst e
          rw [if_pos ⟨rfl, rfl, by omega⟩, if_neg (by omega), if_pos rfl]
        · rw [if_neg (by omega), g1 _ (by omega), if_pos (by omega), show 0 + (i - 0) = i by omega]
theorem s_goOn {CALL : CT} (hC : RuleAll CALL) {n : Nat} {h0 : Nat → Int} (hw : WF h0) : ∀ (f r : Nat) {σ : AM} {K : AV → AM → Prop} {t d s len : Nat} {p q : Nat → Nat}, HRep σ n h0 → (t : Int) < h0 0 → s < 64 → d ≤ lowN s (h0 0).toNat → s.testBit t = false → goR σ d p len q → len ≤ 6 → (h0 0).toNat ≤ lowN (s ||| 2 ^ t) (h0 0).toNat + f → (∀ σ2 : AM, Ch goS σ σ2 → goR σ2 d p (max len (d + 1 + Lo (nxS h0) (h0 0).toNat t (s ||| 2 ^ t))) (fun i => if len < d + 1 + Lo (nxS h0) (h0 0).toNat t (s ||| 2 ^ t) then (if i < d then p i else pth (nxS h0) (h0 0).toNat (i - d) t (s ||| 2 ^ t)) else q i) → K unset σ2) → CALL (r + f + 2) n_Talk_goOn [.inr (.inr (16, 0)), .inr (.inr (23, n)), .inl (Int32.ofInt (t : Int)), .inl (Int32.ofInt (d : Int)), .inl (Int32.ofInt (s : Int))] σ K := by
  have b := hw.1
  intro f
  induction f with
  | zero =>
    intro r σ K t d s len p q hr ht hs hd hts hg hlen hl h
    refine s_goOn1 hC hr hw ht hs hd hts hg hlen (fun nx len' p' q' σ1 K' h1 h2 _ _ _ _ => ?_) h
    have := low_full hl nx (by omega)
    rw [opn_s h2] at this
    cases this
  | succ f ih =>
    intro r σ K t d s len p q hr ht hs hd hts hg hlen hl h
    have lw := lowN_or hts (c := (h0 0).toNat)
    rw [if_pos (by omega)] at lw
    refine s_goOn1 hC hr hw ht hs hd hts hg hlen (fun nx len' p' q' σ1 K' h1 h2 h3 h4 h5 h6 => ?_) h
    refine ih r h3 h1 (Nat.or_lt_two_pow (n := 6) hs (Nat.pow_lt_pow_right (by omega) (by omega))) (by omega) (opn_s h2) h4 h5 ?_ h6
    rw [lowN_or (opn_s h2), if_pos (by omega)]
    omega
def talkL (h : Nat → Int) (t : Nat) : Nat := 1 + Lo (nxS h) (h 0).toNat t (2 ^ t)
theorem talkL_bd {h : Nat → Int} (hw : WF h) {t : Nat} (ht : (t : Int) < h 0) : 1 ≤ talkL h t ∧ talkL h t ≤ 6 := by
  have b := hw.1
  have h1 := @Lo_bd (nxS h) (h 0).toNat t (2 ^ t)
  have h2 := lowN_or (s := 0) (nx := t) (Nat.zero_testBit t) (c := (h 0).toNat)
  rw [Nat.zero_or, if_pos (by omega)] at h2
  unfold talkL
  omega
theorem s_longest {CALL : CT} (hC : RuleAll CALL) {r : Nat} {σ : AM} {K : AV → AM → Prop} {n t : Nat} {h0 : Nat → Int} (hr : HRep σ n h0) (hw : WF h0) (ht : (t : Int) < h0 0) (h : ∀ σ' : AM, Ch goS σ σ' → (∀ i, i < talkL h0 t → σ'.1 18 0 i = Int32.ofInt (pth (nxS h0) (h0 0).toNat i t (2 ^ t) : Nat)) → K (.inl (Int32.ofInt (talkL h0 t : Nat))) σ') : CALL (r + 9) n_Talk_longest [.inr (.inr (16, 0)), .inr (.inr (23, n)), .inl (Int32.ofInt t)] σ K := by
  refine r_Talk_longest hC (fun J hJ => ?_)
  refine hJ _ _ _ _ ?_
  conv => whnf
  have b := hw.1
  have hr2 : HRep (wI σ 16 0 2 (Int32.ofInt 0)) n h0 := hr.fr (S := fun t i => t = 16 ∧ i = 0) (Fr.wI ⟨rfl, rfl⟩) (fun t a b z => by omega)
  refine s_goOn hC hw 6 _ (d := 0) (s := 0) (len := 0) (p := fun _ => 0) (q := fun _ => 0) hr2 ht (by omega) (Nat.zero_le _) (Nat.zero_testBit t) ⟨fun i hi => by omega, ?_, fun i hi => by omega⟩ (by omega) (by omega) ?_
  · rw [wI1, if_pos ⟨rfl, rfl, rfl⟩]
    rfl
  · intro σ2 f1 f2
    rw [Nat.zero_or] at f2
    have e : max 0 (0 + 1 + Lo (nxS h0) (h0 0).toNat t (2 ^ t)) = talkL h0 t := by unfold talkL; omega
    rw [e] at f2
    conv => whnf
    rw [f2.2.1]
    refine h σ2 ((Ch.wI ⟨rfl, Or.inl ⟨rfl, rfl⟩⟩).tr f1) ?_
    intro i hi
    rw [f2.2.2 i hi]
    dsimp only
    rw [if_pos (by omega), if_neg (by omega), Nat.sub_zero]
theorem goS_k : ∀ t i j, goS t i j → ¬ keepI t i j := by
  intro t i j h
  unfold goS at h
  unfold keepI
  omega
theorem s_m_talkFrom {CALL : CT} (hC : RuleAll CALL) {r : Nat} {σ : AM} {K : AV → AM → Prop} {t : Nat} {h0 : Nat → Int} (hm : M0 σ h0) (hw : WF h0) (ht : (t : Int) < h0 0) (h : ∀ σ' : AM, Ch taS σ σ' → TaR σ' (nxS h0) (h0 0).toNat 1 → K (.inl (Int32.ofInt (talkL h0 t : Nat))) σ') : CALL (r + 4) n_m_talkFrom [.inr (.inr (46, 0)), .inl (Int32.ofInt t)] σ K := by
  refine r_m_talkFrom hC (fun J hJ => ?_)
  refine hJ _ _ _ _ ?_
  conv => whnf
  have b := hw.1
  have o2 := one_lt hw ht
  refine s_m_laysTalk hC hm hw ?_
  intro σ2 f1 f2
  have tb := f2 (2 ^ t) t o2.2.2 o2.1 (by omega)
  conv => whnf
  rw [oi_shl (by omega), oi_mul, oi_add]
  refine ⟨(oi_in (by omega) (by omega)).mpr ⟨by omega, by omega⟩, ?_⟩
  conv => whnf
  rw [oi_nat (by omega) (by omega), show (6 * ((2 ^ t : Nat) : Int) + (t : Int)).toNat = 6 * 2 ^ t + t by omega, tb.1, oi_add]
  have hh := h σ2 f1 f2
  unfold talkL at hh
  rw [show (((1 + Lo (nxS h0) (h0 0).toNat t (2 ^ t) : Nat)) : Int) = 1 + ((Lo (nxS h0) (h0 0).toNat t (2 ^ t) : Nat) : Int) by omega] at hh
  exact hh
theorem op_talk {CALL : CT} (hC : RuleAll CALL) {r : Nat} {σ : AM} {K : AV → AV → AM → Prop} {n : Nat} {h0 : Nat → Int} (hn : NH σ n h0) {z : Int} (z1 : -2147483648 ≤ z) (z2 : z < 2147483648) (h : ∀ v σ2, SC σ σ2 → σ2.1 1 0 16 = σ2.1 46 0 2 → K v v σ2) : CALL (r + 20) n_x_talk [.inr (.inr (1, 0)), .inl (Int32.ofInt z)] σ (fun v σ1 => CALL (r + 20) n_m_talk [.inr (.inr (46, 0)), .inl (Int32.ofInt z)] σ1 (fun v' σ2 => K v v' σ2)) := by
  obtain ⟨n45, hnn, hr, hm, ⟨hw, hw67⟩, h59⟩ := id hn
  have b := hw.1
  obtain ⟨q0, q1, q2, q3, q4, q5, q6, q7, q8, q9, qa, qt, qm, qe⟩ := id hr
  refine r_x_talk hC (fun J hJ => ?_)
  refine hJ _ _ _ _ ?_
  conv => whnf
  refine s_isTopic hC hn z1 z2 ?_
  conv => whnf
  refine ⟨fun c => ?_, fun c => ?_⟩ <;> (try simp (disch := omega) only [oi_le, oi_lt, oi_eq, oi_lt0, oi_le0, oi_0lt, oi_0le, oi_eq0, oi_eq1, bI_eq0, bI_ne0, bI_eq1, decide_eq_true_eq, decide_eq_false_iff_not, lc_lt, lc_gt, lc_eq, lc_ge, lc_le, ol_lt, ol_eq, ne_eq, Int.not_lt, Int.not_le, Bool.not_eq_true, Bool.not_eq_false, Decidable.not_not, not_true_eq_false, not_false_eq_true, Bool.true_eq_false, Bool.false_eq_true] at c) <;> (first | (exfalso; omega) | ((with_reducible refine hJ _ _ _ _ ?_); conv => whnf) | (conv => whnf))
  · refine s_none hC ?_
    conv => whnf
    refine hJ _ _ _ _ ?_
    conv => whnf
    refine r_m_talk hC (fun J hJ => ?_)
    refine hJ _ _ _ _ ?_
    conv => whnf
    rw [oi_l (by omega) (by omega)]
    refine s_m_isTopic hC hm.c hw (by omega) (by omega) ?_
    conv => whnf
    refine ⟨fun c2 => ?_, fun c2 => ?_⟩ <;> (try simp (disch := omega) only [oi_le, oi_lt, oi_eq, oi_lt0, oi_le0, oi_0lt, oi_0le, oi_eq0, oi_eq1, bI_eq0, bI_ne0, bI_eq1, decide_eq_true_eq, decide_eq_false_iff_not, lc_lt, lc_gt, lc_eq, lc_ge, lc_le, ol_lt, ol_eq, ne_eq, Int.not_lt, Int.not_le, Bool.not_eq_true, Bool.not_eq_false, Decidable.not_not, not_true_eq_false, not_false_eq_true, Bool.true_eq_false, Bool.false_eq_true] at c2) <;> (first | (exfalso; omega) | ((with_reducible refine hJ _ _ _ _ ?_); conv => whnf) | (conv => whnf))
    refine s_m_refuse hC ?_
    conv => whnf
    refine hJ _ _ _ _ ?_
    conv => whnf
    exact h _ _ done2.1 done2.2
  · rw [hnn]
    refine ⟨by omega, ?_⟩
    conv => whnf
    obtain ⟨t, rfl⟩ : ∃ t : Nat, z = (t : Int) := ⟨z.toNat, by omega⟩
    have ht : (t : Int) < h0 0 := c.2
    refine s_longest hC hr hw ht ?_
    intro σ1 g1 g2
    have sc1 := g1.sc goS_k
    conv => whnf
    refine s_give hC ?_
    conv => whnf
    refine hJ _ _ _ _ ?_
    conv => whnf
    refine r_m_talk hC (fun J hJ => ?_)
    refine hJ _ _ _ _ ?_
    conv => whnf
    rw [oi_l (by omega) (by omega)]
    refine s_m_isTopic hC (m0_sh hm sc1) hw (by omega) (by omega) ?_
    conv => whnf
    refine ⟨fun c2 => ?_, fun c2 => ?_⟩ <;> (try simp (disch := omega) only [oi_le, oi_lt, oi_eq, oi_lt0, oi_le0, oi_0lt, oi_0le, oi_eq0, oi_eq1, bI_eq0, bI_ne0, bI_eq1, decide_eq_true_eq, decide_eq_false_iff_not, lc_lt, lc_gt, lc_eq, lc_ge, lc_le, ol_lt, ol_eq, ne_eq, Int.not_lt, Int.not_le, Bool.not_eq_true, Bool.not_eq_false, Decidable.not_not, not_true_eq_false, not_false_eq_true, Bool.true_eq_false, Bool.false_eq_true] at c2) <;> (first | (exfalso; omega) | ((with_reducible refine hJ _ _ _ _ ?_); conv => whnf) | (conv => whnf))
    refine s_m_talkFrom hC (m0_sh hm sc1) hw ht ?_
    intro σ2 f1 f2
    conv => whnf
    refine s_m_gives hC ?_
    conv => whnf
    refine hJ _ _ _ _ ?_
    conv => whnf
    have dn := done3 (sc1.tr (SC.wI nk_code)) (by rw [wI1, if_pos ⟨rfl, rfl, rfl⟩]) f1 taS_k taS_16
    exact h _ _ dn.1 dn.2
/-- the set of those said, and the topic -/
def pse (g : Nat → Nat) (c : Nat) : Nat → Nat → Nat → Nat
  | 0, _, s => s
  | i + 1, t, s => match nextS g c t s with
    | some nx => pse g c i nx (s ||| 2 ^ nx)
    | none => s
theorem pth_s (g : Nat → Nat) (c : Nat) : ∀ (i t s : Nat), i < Lo g c t s → c ≤ 6 → ∃ nx, nextS g c (pth g c i t s) (pse g c i t s) = some nx ∧ pth g c (i + 1) t s = nx ∧ pse g c (i + 1) t s = pse g c i t s ||| 2 ^ nx ∧ Lo g c (pth g c i t s) (pse g c i t s) + i = Lo g c t s
  | 0, t, s, h, hc => by
    have lc := l_c (g := g) hc t s
    obtain ⟨k, h1, h2⟩ := mxN_ex (f := fun nx => if opn g t s nx then 1 + Lo g c nx (s ||| 2 ^ nx) else 0) (i := c) (by have := lc.1; unfold lM at this; omega)
    cases hf : nextS g c t s with
    | some nx =>
      refine ⟨nx, hf, ?_, ?_, rfl⟩
      · show (match nextS g c t s with | some nx => pth g c 0 nx (s ||| 2 ^ nx) | none => t) = nx
        rw [hf]
        rfl
      · show (match nextS g c t s with | some nx => pse g c 0 nx (s ||| 2 ^ nx) | none => s) = s ||| 2 ^ nx
        rw [hf]
        rfl
    | none =>
      unfold nextS at hf
      rw [firstF_no] at hf
      have h3 := hf k (by omega) (by omega)
      have h4 : lM g c t s c = Lo g c t s := lc.1
      unfold lM at h4
      rw [h4] at h2
      cases hok : opn g t s k with
      | true =>
        simp only [hok, if_true] at h2
        rw [hok, Bool.true_and] at h3
        exact absurd h2 (of_decide_eq_false h3)
      | false =>
        simp only [hok] at h2
        simp at h2
        omega
  | i + 1, t, s, h, hc => by
    obtain ⟨nx, h1, h2, h3, h4⟩ := pth_s g c 0 t s (by omega) hc
    have h1' : nextS g c t s = some nx := h1
    have hf := firstF_ge h1'
    simp only [Bool.and_eq_true, decide_eq_true_eq] at hf
    obtain ⟨nx2, k1, k2, k3, k4⟩ := pth_s g c i nx (s ||| 2 ^ nx) (by omega) hc
    refine ⟨nx2, ?_, ?_, ?_, ?_⟩
    · rw [pth, pse, h1']; exact k1
    · rw [pth, h1']; exact k2
    · rw [pse, pse, h1']; exact k3
    · rw [pth, pse, h1']
      dsimp only
      omega
theorem pse_lt (g : Nat → Nat) (c : Nat) (hc : c ≤ 6) : ∀ (i t s : Nat), t < c → s < 2 ^ c → 1 ≤ s → pse g c i t s < 2 ^ c ∧ 1 ≤ pse g c i t s ∧ pth g c i t s < c
  | 0, t, s, h1, h2, h3 => ⟨h2, h3, h1⟩
  | i + 1, t, s, h1, h2, h3 => by
    rw [pse, pth]
    cases hf : nextS g c t s with
    | some nx =>
      have hg := firstF_ge hf
      have hge : s ≤ s ||| 2 ^ nx := Nat.left_le_or
      exact pse_lt g c hc i nx (s ||| 2 ^ nx) (by omega) (Nat.or_lt_two_pow h2 (Nat.pow_lt_pow_right (by omega) (by omega))) (by omega)
    | none => exact ⟨h2, h3, h1⟩
theorem op_talkAt {CALL : CT} (hC : RuleAll CALL) {r : Nat} {σ : AM} {K : AV → AV → AM → Prop} {n : Nat} {h0 : Nat → Int} (hn : NH σ n h0) {z y : Int} (z1 : -2147483648 ≤ z) (z2 : z < 2147483648) (y1 : -2147483648 ≤ y) (y2 : y < 2147483648) (h : ∀ v σ2, SC σ σ2 → σ2.1 1 0 16 = σ2.1 46 0 2 → K v v σ2) : CALL (r + 20) n_x_talkAt [.inr (.inr (1, 0)), .inl (Int32.ofInt z), .inl (Int32.ofInt y)] σ (fun v σ1 => CALL (r + 20) n_m_talkAt [.inr (.inr (46, 0)), .inl (Int32.ofInt z), .inl (Int32.ofInt y)] σ1 (fun v' σ2 => K v v' σ2)) := by
  obtain ⟨n45, hnn, hr, hm, ⟨hw, hw67⟩, h59⟩ := id hn
  have b := hw.1
  obtain ⟨q0, q1, q2, q3, q4, q5, q6, q7, q8, q9, qa, qt, qm, qe⟩ := id hr
  have bad : ¬ ((0 ≤ z ∧ z < h0 0) ∧ 0 ≤ y) → CALL (r + 20) n_m_talkAt [.inr (.inr (46, 0)), .inl (Int32.ofInt z), .inl (Int32.ofInt y)] (wI σ 1 0 16 (Int32.ofInt 1)) (fun v' σ2 => K (.inl (Int32.ofInt (-1))) v' σ2) := by
    intro hb
    refine r_m_talkAt hC (fun J hJ => ?_)
    refine hJ _ _ _ _ ?_
    conv => whnf
    rw [oi_l (by omega) (by omega)]
    refine s_m_isTopic hC hm.c hw (by omega) (by omega) ?_
    conv => whnf
    refine ⟨fun c => ?_, fun c => ?_⟩ <;> (try simp (disch := omega) only [oi_le, oi_lt, oi_eq, oi_lt0, oi_le0, oi_0lt, oi_0le, oi_eq0, oi_eq1, bI_eq0, bI_ne0, bI_eq1, decide_eq_true_eq, decide_eq_false_iff_not, lc_lt, lc_gt, lc_eq, lc_ge, lc_le, ol_lt, ol_eq, ne_eq, Int.not_lt, Int.not_le, Bool.not_eq_true, Bool.not_eq_false, Decidable.not_not, not_true_eq_false, not_false_eq_true, Bool.true_eq_false, Bool.false_eq_true] at c) <;> (first | (exfalso; omega) | ((with_reducible refine hJ _ _ _ _ ?_); conv => whnf) | (conv => whnf))
    · refine s_m_refuse hC ?_
      conv => whnf
      exact h _ _ done2.1 done2.2
    · refine ⟨fun c2 => ?_, fun c2 => ?_⟩ <;> (try simp (disch := omega) only [oi_le, oi_lt, oi_eq, oi_lt0, oi_le0, oi_0lt, oi_0le, oi_eq0, oi_eq1, bI_eq0, bI_ne0, bI_eq1, decide_eq_true_eq, decide_eq_false_iff_not, lc_lt, lc_gt, lc_eq, lc_ge, lc_le, ol_lt, ol_eq, ne_eq, Int.not_lt, Int.not_le, Bool.not_eq_true, Bool.not_eq_false, Decidable.not_not, not_true_eq_false, not_false_eq_true, Bool.true_eq_false, Bool.false_eq_true] at c2) <;> (first | (exfalso; omega) | ((with_reducible refine hJ _ _ _ _ ?_); conv => whnf) | (conv => whnf))
      refine hJ _ _ _ _ ?_
      conv => whnf
      refine s_m_refuse hC ?_
      conv => whnf
      exact h _ _ done2.1 done2.2
  refine r_x_talkAt hC (fun J hJ => ?_)
  refine hJ _ _ _ _ ?_
  conv => whnf
  refine s_isTopic hC hn z1 z2 ?_
  conv => whnf
  refine ⟨fun c => ?_, fun c => ?_⟩ <;> (try simp (disch := omega) only [oi_le, oi_lt, oi_eq, oi_lt0, oi_le0, oi_0lt, oi_0le, oi_eq0, oi_eq1, bI_eq0, bI_ne0, bI_eq1, decide_eq_true_eq, decide_eq_false_iff_not, lc_lt, lc_gt, lc_eq, lc_ge, lc_le, ol_lt, ol_eq, ne_eq, Int.not_lt, Int.not_le, Bool.not_eq_true, Bool.not_eq_false, Decidable.not_not, not_true_eq_false, not_false_eq_true, Bool.true_eq_false, Bool.false_eq_true] at c) <;> (first | (exfalso; omega) | ((with_reducible refine hJ _ _ _ _ ?_); conv => whnf) | (conv => whnf))
  · refine s_none hC ?_
    conv => whnf
    exact bad (by omega)
  · refine ⟨fun c2 => ?_, fun c2 => ?_⟩ <;> (try simp (disch := omega) only [oi_le, oi_lt, oi_eq, oi_lt0, oi_le0, oi_0lt, oi_0le, oi_eq0, oi_eq1, bI_eq0, bI_ne0, bI_eq1, decide_eq_true_eq, decide_eq_false_iff_not, lc_lt, lc_gt, lc_eq, lc_ge, lc_le, ol_lt, ol_eq, ne_eq, Int.not_lt, Int.not_le, Bool.not_eq_true, Bool.not_eq_false, Decidable.not_not, not_true_eq_false, not_false_eq_true, Bool.true_eq_false, Bool.false_eq_true] at c2) <;> (first | (exfalso; omega) | ((with_reducible refine hJ _ _ _ _ ?_); conv => whnf) | (conv => whnf))
    · rw [hnn]
      refine ⟨by omega, ?_⟩
      conv => whnf
      obtain ⟨t, rfl⟩ : ∃ t : Nat, z = (t : Int) := ⟨z.toNat, by omega⟩
      obtain ⟨k, rfl⟩ : ∃ k : Nat, y = (k : Int) := ⟨y.toNat, by omega⟩
      have ht : (t : Int) < h0 0 := c.2
      have tl := talkL_bd hw ht
      have o2 := one_lt hw ht
      refine s_longest hC hr hw ht ?_
      intro σ1 g1 g2
      have sc1 := g1.sc goS_k
      conv => whnf
      refine ⟨fun c3 => ?_, fun c3 => ?_⟩ <;> (try simp (disch := omega) only [oi_le, oi_lt, oi_eq, oi_lt0, oi_le0, oi_0lt, oi_0le, oi_eq0, oi_eq1, bI_eq0, bI_ne0, bI_eq1, decide_eq_true_eq, decide_eq_false_iff_not, lc_lt, lc_gt, lc_eq, lc_ge, lc_le, ol_lt, ol_eq, ne_eq, Int.not_lt, Int.not_le, Bool.not_eq_true, Bool.not_eq_false, Decidable.not_not, not_true_eq_false, not_false_eq_true, Bool.true_eq_false, Bool.false_eq_true] at c3) <;> (first | (exfalso; omega) | ((with_reducible refine hJ _ _ _ _ ?_); conv => whnf) | (conv => whnf))
      · refine s_none hC ?_
        conv => whnf
        refine hJ _ _ _ _ ?_
        conv => whnf
        refine r_m_talkAt hC (fun J hJ => ?_)
        refine hJ _ _ _ _ ?_
        conv => whnf
        rw [oi_l (by omega) (by omega)]
        refine s_m_isTopic hC (m0_sh hm sc1) hw (by omega) (by omega) ?_
        conv => whnf
        refine ⟨fun c4 => ?_, fun c4 => ?_⟩ <;> (try simp (disch := omega) only [oi_le, oi_lt, oi_eq, oi_lt0, oi_le0, oi_0lt, oi_0le, oi_eq0, oi_eq1, bI_eq0, bI_ne0, bI_eq1, decide_eq_true_eq, decide_eq_false_iff_not, lc_lt, lc_gt, lc_eq, lc_ge, lc_le, ol_lt, ol_eq, ne_eq, Int.not_lt, Int.not_le, Bool.not_eq_true, Bool.not_eq_false, Decidable.not_not, not_true_eq_false, not_false_eq_true, Bool.true_eq_false, Bool.false_eq_true] at c4) <;> (first | (exfalso; omega) | ((with_reducible refine hJ _ _ _ _ ?_); conv => whnf) | (conv => whnf))
        refine ⟨fun c5 => ?_, fun c5 => ?_⟩ <;> (try simp (disch := omega) only [oi_le, oi_lt, oi_eq, oi_lt0, oi_le0, oi_0lt, oi_0le, oi_eq0, oi_eq1, bI_eq0, bI_ne0, bI_eq1, decide_eq_true_eq, decide_eq_false_iff_not, lc_lt, lc_gt, lc_eq, lc_ge, lc_le, ol_lt, ol_eq, ne_eq, Int.not_lt, Int.not_le, Bool.not_eq_true, Bool.not_eq_false, Decidable.not_not, not_true_eq_false, not_false_eq_true, Bool.true_eq_false, Bool.false_eq_true] at c5) <;> (first | (exfalso; omega) | ((with_reducible refine hJ _ _ _ _ ?_); conv => whnf) | (conv => whnf))
        refine s_m_talkFrom hC (m0_sh hm sc1) hw ht ?_
        intro σ2 f1 f2
        conv => whnf
        refine ⟨fun c6 => ?_, fun c6 => ?_⟩ <;> (try simp (disch := omega) only [oi_le, oi_lt, oi_eq, oi_lt0, oi_le0, oi_0lt, oi_0le, oi_eq0, oi_eq1, bI_eq0, bI_ne0, bI_eq1, decide_eq_true_eq, decide_eq_false_iff_not, lc_lt, lc_gt, lc_eq, lc_ge, lc_le, ol_lt, ol_eq, ne_eq, Int.not_lt, Int.not_le, Bool.not_eq_true, Bool.not_eq_false, Decidable.not_not, not_true_eq_false, not_false_eq_true, Bool.true_eq_false, Bool.false_eq_true] at c6) <;> (first | (exfalso; omega) | ((with_reducible refine hJ _ _ _ _ ?_); conv => whnf) | (conv => whnf))
        refine s_m_refuse hC ?_
        conv => whnf
        have dn := done3 (sc1.tr (SC.wI nk_code)) (by rw [wI1, if_pos ⟨rfl, rfl, rfl⟩]) f1 taS_k taS_16
        exact h _ _ dn.1 dn.2
      · refine ⟨(oi_in (by omega) (by omega)).mpr ⟨by omega, by omega⟩, ?_⟩
        conv => whnf
        rw [oi_nat (by omega) (by omega), Int.toNat_natCast, g2 k (by omega)]
        refine s_give hC ?_
        conv => whnf
        refine hJ _ _ _ _ ?_
        conv => whnf
        refine r_m_talkAt hC (fun J hJ => ?_)
        refine hJ _ _ _ _ ?_
        conv => whnf
        rw [oi_l (by omega) (by omega)]
        refine s_m_isTopic hC (m0_sh hm sc1) hw (by omega) (by omega) ?_
        conv => whnf
        refine ⟨fun c4 => ?_, fun c4 => ?_⟩ <;> (try simp (disch := omega) only [oi_le, oi_lt, oi_eq, oi_lt0, oi_le0, oi_0lt, oi_0le, oi_eq0, oi_eq1, bI_eq0, bI_ne0, bI_eq1, decide_eq_true_eq, decide_eq_false_iff_not, lc_lt, lc_gt, lc_eq, lc_ge, lc_le, ol_lt, ol_eq, ne_eq, Int.not_lt, Int.not_le, Bool.not_eq_true, Bool.not_eq_false, Decidable.not_not, not_true_eq_false, not_false_eq_true, Bool.true_eq_false, Bool.false_eq_true] at c4) <;> (first | (exfalso; omega) | ((with_reducible refine hJ _ _ _ _ ?_); conv => whnf) | (conv => whnf))
        refine ⟨fun c5 => ?_, fun c5 => ?_⟩ <;> (try simp (disch := omega) only [oi_le, oi_lt, oi_eq, oi_lt0, oi_le0, oi_0lt, oi_0le, oi_eq0, oi_eq1, bI_eq0, bI_ne0, bI_eq1, decide_eq_true_eq, decide_eq_false_iff_not, lc_lt, lc_gt, lc_eq, lc_ge, lc_le, ol_lt, ol_eq, ne_eq, Int.not_lt, Int.not_le, Bool.not_eq_true, Bool.not_eq_false, Decidable.not_not, not_true_eq_false, not_false_eq_true, Bool.true_eq_false, Bool.false_eq_true] at c5) <;> (first | (exfalso; omega) | ((with_reducible refine hJ _ _ _ _ ?_); conv => whnf) | (conv => whnf))
        refine s_m_talkFrom hC (m0_sh hm sc1) hw ht ?_
        intro σ2 f1 f2
        have m2 : M0 σ2 h0 := (m0_sh hm sc1).ch f1 (fun j hj => by unfold taS; omega)
        have dn := done3 (sc1.tr (SC.wI nk_code)) (by rw [wI1, if_pos ⟨rfl, rfl, rfl⟩]) f1 taS_k taS_16
        conv => whnf
        refine ⟨fun c6 => ?_, fun c6 => ?_⟩ <;> (try simp (disch := omega) only [oi_le, oi_lt, oi_eq, oi_lt0, oi_le0, oi_0lt, oi_0le, oi_eq0, oi_eq1, bI_eq0, bI_ne0, bI_eq1, decide_eq_true_eq, decide_eq_false_iff_not, lc_lt, lc_gt, lc_eq, lc_ge, lc_le, ol_lt, ol_eq, ne_eq, Int.not_lt, Int.not_le, Bool.not_eq_true, Bool.not_eq_false, Decidable.not_not, not_true_eq_false, not_false_eq_true, Bool.true_eq_false, Bool.false_eq_true] at c6) <;> (first | (exfalso; omega) | ((with_reducible refine hJ _ _ _ _ ?_); conv => whnf) | (conv => whnf))
        rw [oi_shl (by omega)]
        have hc6 : (h0 0).toNat ≤ 6 := by omega
        have hp : (2 : Nat) ^ (h0 0).toNat ≤ 2 ^ 6 := Nat.pow_le_pow_right (by omega) (by omega)
        have lo1 : talkL h0 t = 1 + Lo (nxS h0) (h0 0).toNat t (2 ^ t) := rfl
        have loop : ∀ (q i : Nat) (x6 x7 : AV), i + q = k → J 45 [.inr (.inr (46, 0)), .inl (Int32.ofInt (t : Int)), .inl (Int32.ofInt (k : Int)), .inl (Int32.ofInt (pse (nxS h0) (h0 0).toNat i t (2 ^ t) : Nat)), .inl (Int32.ofInt (pth (nxS h0) (h0 0).toNat i t (2 ^ t) : Nat)), .inl (Int32.ofInt (i : Int)), x6, x7] [] σ2 := by
          intro q
          induction q with
          | zero =>
            intro i x6 x7 hi
            have : i = k := by omega
            subst this
            refine hJ _ _ _ _ ?_
            conv => whnf
            refine ⟨fun c7 => ?_, fun c7 => ?_⟩ <;> (try simp (disch := omega) only [oi_le, oi_lt, oi_eq, oi_lt0, oi_le0, oi_0lt, oi_0le, oi_eq0, oi_eq1, bI_eq0, bI_ne0, bI_eq1, decide_eq_true_eq, decide_eq_false_iff_not, lc_lt, lc_gt, lc_eq, lc_ge, lc_le, ol_lt, ol_eq, ne_eq, Int.not_lt, Int.not_le, Bool.not_eq_true, Bool.not_eq_false, Decidable.not_not, not_true_eq_false, not_false_eq_true, Bool.true_eq_false, Bool.false_eq_true] at c7) <;> (first | (exfalso; omega) | ((with_reducible refine hJ _ _ _ _ ?_); conv => whnf) | (conv => whnf))
            refine s_m_gives hC ?_
            conv => whnf
            exact h _ _ dn.1 dn.2
          | succ q ih =>
            intro i x6 x7 hi
            have lt := pse_lt (nxS h0) (h0 0).toNat hc6 i t (2 ^ t) (by omega) o2.1 o2.2.2
            obtain ⟨nx, h1, h2, h3, h4⟩ := pth_s (nxS h0) (h0 0).toNat i t (2 ^ t) (by omega) hc6
            have nxt := ih (i + 1)
            rw [h2, h3] at nxt
            generalize hS : pse (nxS h0) (h0 0).toNat i t (2 ^ t) = S at lt h1 h4 nxt ⊢
            generalize hT : pth (nxS h0) (h0 0).toNat i t (2 ^ t) = T at lt h1 h4 nxt ⊢
            have tb := f2 S T lt.2.1 lt.1 lt.2.2
            have hTt : (T : Int) < h0 0 := by omega
            have hnl := nxS_lt hw hTt
            have lbT := @Lo_bd (nxS h0) (h0 0).toNat T S
            have hfx := firstF_ge h1
            refine hJ _ _ _ _ ?_
            conv => whnf
            refine ⟨fun c7 => ?_, fun c7 => ?_⟩ <;> (try simp (disch := omega) only [oi_le, oi_lt, oi_eq, oi_lt0, oi_le0, oi_0lt, oi_0le, oi_eq0, oi_eq1, bI_eq0, bI_ne0, bI_eq1, decide_eq_true_eq, decide_eq_false_iff_not, lc_lt, lc_gt, lc_eq, lc_ge, lc_le, ol_lt, ol_eq, ne_eq, Int.not_lt, Int.not_le, Bool.not_eq_true, Bool.not_eq_false, Decidable.not_not, not_true_eq_false, not_false_eq_true, Bool.true_eq_false, Bool.false_eq_true] at c7) <;> (first | (exfalso; omega) | ((with_reducible refine hJ _ _ _ _ ?_); conv => whnf) | (conv => whnf))
            rw [oi_mul, oi_add]
            refine ⟨(oi_in (by omega) (by omega)).mpr ⟨by omega, by omega⟩, ?_⟩
            conv => whnf
            rw [oi_nat (by omega) (by omega), show (6 * (S : Int) + (T : Int)).toNat = 6 * S + T by omega, tb.1]
            have seek : ∀ (w j : Nat), j + w = nx → J 68 [.inr (.inr (46, 0)), .inl (Int32.ofInt (t : Int)), .inl (Int32.ofInt (k : Int)), .inl (Int32.ofInt (S : Int)), .inl (Int32.ofInt (T : Int)), .inl (Int32.ofInt (i : Int)), .inl (Int32.ofInt (Lo (nxS h0) (h0 0).toNat T S : Nat)), .inl (Int32.ofInt (j : Int))] [] σ2 := by
              intro w
              induction w with
              | zero =>
                intro j hj
                have : j = nx := by omega
                subst this
                have hb := hfx.2.2.1
                simp only [Bool.and_eq_true, decide_eq_true_eq] at hb
                have ho := hb.1
                have ho2 := opn_s ho
                have ho1 : (nxS h0 T).testBit j = true := by
                  unfold opn at ho
                  simp only [Bool.and_eq_true] at ho
                  exact ho.1
                have hor : S ||| 2 ^ j < 2 ^ (h0 0).toNat := Nat.or_lt_two_pow lt.1 (Nat.pow_lt_pow_right (by omega) (by omega))
                have hge : S ≤ S ||| 2 ^ j := Nat.left_le_or
                have tb2 := f2 (S ||| 2 ^ j) j (by omega) hor (by omega)
                refine hJ _ _ _ _ ?_
                conv => whnf
                refine s_m_nextOf hC m2 (by omega) ?_
                conv => whnf
                rw [hnl.2]
                refine s_m_isIn hC (by omega) (by omega) ?_
                conv => whnf
                rw [ho1]
                refine ⟨fun c8 => ?_, fun c8 => ?_⟩ <;> (try simp (disch := omega) only [oi_le, oi_lt, oi_eq, oi_lt0, oi_le0, oi_0lt, oi_0le, oi_eq0, oi_eq1, bI_eq0, bI_ne0, bI_eq1, decide_eq_true_eq, decide_eq_false_iff_not, lc_lt, lc_gt, lc_eq, lc_ge, lc_le, ol_lt, ol_eq, ne_eq, Int.not_lt, Int.not_le, Bool.not_eq_true, Bool.not_eq_false, Decidable.not_not, not_true_eq_false, not_false_eq_true, Bool.true_eq_false, Bool.false_eq_true] at c8) <;> (first | (exfalso; omega) | ((with_reducible refine hJ _ _ _ _ ?_); conv => whnf) | (conv => whnf))
                refine s_m_isIn hC (by omega) (by omega) ?_
                conv => whnf
                rw [ho2]
                refine ⟨fun c9 => ?_, fun c9 => ?_⟩ <;> (try simp (disch := omega) only [oi_le, oi_lt, oi_eq, oi_lt0, oi_le0, oi_0lt, oi_0le, oi_eq0, oi_eq1, bI_eq0, bI_ne0, bI_eq1, decide_eq_true_eq, decide_eq_false_iff_not, lc_lt, lc_gt, lc_eq, lc_ge, lc_le, ol_lt, ol_eq, ne_eq, Int.not_lt, Int.not_le, Bool.not_eq_true, Bool.not_eq_false, Decidable.not_not, not_true_eq_false, not_false_eq_true, Bool.true_eq_false, Bool.false_eq_true] at c9) <;> (first | (exfalso; omega) | ((with_reducible refine hJ _ _ _ _ ?_); conv => whnf) | (conv => whnf))
                rw [oi_shl (by omega), oi_or, oi_mul, oi_add]
                refine ⟨(oi_in (by omega) (by omega)).mpr ⟨by omega, by omega⟩, ?_⟩
                conv => whnf
                rw [oi_nat (by omega) (by omega), show (6 * ((S ||| 2 ^ j : Nat) : Int) + (j : Int)).toNat = 6 * (S ||| 2 ^ j) + j by omega, tb2.1, oi_add]
                refine ⟨fun ca => ?_, fun ca => ?_⟩ <;> (try simp (disch := omega) only [oi_le, oi_lt, oi_eq, oi_lt0, oi_le0, oi_0lt, oi_0le, oi_eq0, oi_eq1, bI_eq0, bI_ne0, bI_eq1, decide_eq_true_eq, decide_eq_false_iff_not, lc_lt, lc_gt, lc_eq, lc_ge, lc_le, ol_lt, ol_eq, ne_eq, Int.not_lt, Int.not_le, Bool.not_eq_true, Bool.not_eq_false, Decidable.not_not, not_true_eq_false, not_false_eq_true, Bool.true_eq_false, Bool.false_eq_true] at ca) <;> (first | (exfalso; omega) | ((with_reducible refine hJ _ _ _ _ ?_); conv => whnf) | (conv => whnf))
                rw [oi_shl (by omega), oi_or, oi_succ]
                exact nxt _ _ (by omega)
              | succ w ihw =>
                intro j hj
                have hb := hfx.2.2.2 j (by omega) (by omega)
                have skip : J 117 [.inr (.inr (46, 0)), .inl (Int32.ofInt (t : Int)), .inl (Int32.ofInt (k : Int)), .inl (Int32.ofInt (S : Int)), .inl (Int32.ofInt (T : Int)), .inl (Int32.ofInt (i : Int)), .inl (Int32.ofInt (Lo (nxS h0) (h0 0).toNat T S : Nat)), .inl (Int32.ofInt (j : Int))] [] σ2 := by
                  refine hJ _ _ _ _ ?_
                  conv => whnf
                  rw [oi_succ]
                  exact ihw (j + 1) (by omega)
                refine hJ _ _ _ _ ?_
                conv => whnf
                refine s_m_nextOf hC m2 (by omega) ?_
                conv => whnf
                rw [hnl.2]
                refine s_m_isIn hC (by omega) (by omega) ?_
                conv => whnf
                refine ⟨fun c8 => ?_, fun c8 => ?_⟩ <;> (try simp (disch := omega) only [oi_le, oi_lt, oi_eq, oi_lt0, oi_le0, oi_0lt, oi_0le, oi_eq0, oi_eq1, bI_eq0, bI_ne0, bI_eq1, decide_eq_true_eq, decide_eq_false_iff_not, lc_lt, lc_gt, lc_eq, lc_ge, lc_le, ol_lt, ol_eq, ne_eq, Int.not_lt, Int.not_le, Bool.not_eq_true, Bool.not_eq_false, Decidable.not_not, not_true_eq_false, not_false_eq_true, Bool.true_eq_false, Bool.false_eq_true] at c8) <;> (first | (exfalso; omega) | ((fail_if_success with_reducible refine hJ _ _ _ _ ?_); conv => whnf) | skip)
                · exact skip
                · refine s_m_isIn hC (by omega) (by omega) ?_
                  conv => whnf
                  refine ⟨fun c9 => ?_, fun c9 => ?_⟩ <;> (try simp (disch := omega) only [oi_le, oi_lt, oi_eq, oi_lt0, oi_le0, oi_0lt, oi_0le, oi_eq0, oi_eq1, bI_eq0, bI_ne0, bI_eq1, decide_eq_true_eq, decide_eq_false_iff_not, lc_lt, lc_gt, lc_eq, lc_ge, lc_le, ol_lt, ol_eq, ne_eq, Int.not_lt, Int.not_le, Bool.not_eq_true, Bool.not_eq_false, Decidable.not_not, not_true_eq_false, not_false_eq_true, Bool.true_eq_false, Bool.false_eq_true] at c9) <;> (first | (exfalso; omega) | ((fail_if_success with_reducible refine hJ _ _ _ _ ?_); conv => whnf) | skip)
                  · exact skip
                  · have hor : S ||| 2 ^ j < 2 ^ (h0 0).toNat := Nat.or_lt_two_pow lt.1 (Nat.pow_lt_pow_right (by omega) (by omega))
                    have hge : S ≤ S ||| 2 ^ j := Nat.left_le_or
                    have tb2 := f2 (S ||| 2 ^ j) j (by omega) hor (by omega)
                    have lb2 := @Lo_bd (nxS h0) (h0 0).toNat j (S ||| 2 ^ j)
                    have hne : ¬ 1 + Lo (nxS h0) (h0 0).toNat j (S ||| 2 ^ j) = Lo (nxS h0) (h0 0).toNat T S := by
                      intro z
                      unfold opn at hb
                      rw [c8, c9, decide_eq_true z] at hb
                      cases hb
                    rw [oi_shl (by omega), oi_or, oi_mul, oi_add]
                    refine ⟨(oi_in (by omega) (by omega)).mpr ⟨by omega, by omega⟩, ?_⟩
                    conv => whnf
                    rw [oi_nat (by omega) (by omega), show (6 * ((S ||| 2 ^ j : Nat) : Int) + (j : Int)).toNat = 6 * (S ||| 2 ^ j) + j by omega, tb2.1, oi_add]
                    refine ⟨fun ca => ?_, fun ca => ?_⟩ <;> (try simp (disch := omega) only [oi_le, oi_lt, oi_eq, oi_lt0, oi_le0, oi_0lt, oi_0le, oi_eq0, oi_eq1, bI_eq0, bI_ne0, bI_eq1, decide_eq_true_eq, decide_eq_false_iff_not, lc_lt, lc_gt, lc_eq, lc_ge, lc_le, ol_lt, ol_eq, ne_eq, Int.not_lt, Int.not_le, Bool.not_eq_true, Bool.not_eq_false, Decidable.not_not, not_true_eq_false, not_false_eq_true, Bool.true_eq_false, Bool.false_eq_true] at ca) <;> (first | (exfalso; omega) | ((fail_if_success with_reducible refine hJ _ _ _ _ ?_); conv => whnf) | skip)
                    exact skip
            exact seek nx 0 (by omega)
        exact loop k 0 _ _ (by omega)
    · refine hJ _ _ _ _ ?_
      conv => whnf
      refine s_none hC ?_
      conv => whnf
      exact bad (by omega)
