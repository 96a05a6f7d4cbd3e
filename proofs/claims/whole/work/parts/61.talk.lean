/-! talk without a topic again, and the game -/
def opn (g : Nat → Nat) (t s nx : Nat) : Bool := (g t).testBit nx && !s.testBit nx
def mxN (f : Nat → Nat) : Nat → Nat
  | 0 => 0
  | i + 1 => max (mxN f i) (f i)
def anyB (p : Nat → Bool) : Nat → Bool
  | 0 => false
  | i + 1 => anyB p i || p i
def lonF (g : Nat → Nat) (c : Nat) : Nat → Nat → Nat → Nat
  | 0, _, _ => 0
  | f + 1, t, s => mxN (fun nx => if opn g t s nx then 1 + lonF g c f nx (s ||| 2 ^ nx) else 0) c
def winF (g : Nat → Nat) (c : Nat) : Nat → Nat → Nat → Bool
  | 0, _, _ => false
  | f + 1, t, s => anyB (fun nx => opn g t s nx && !winF g c f nx (s ||| 2 ^ nx)) c
theorem mxN_cong {f f' : Nat → Nat} : ∀ {i : Nat}, (∀ k, k < i → f k = f' k) → mxN f i = mxN f' i
  | 0, _ => rfl
  | i + 1, h => by rw [mxN, mxN, mxN_cong (fun k hk => h k (by omega)), h i (by omega)]
theorem anyB_cong {f f' : Nat → Bool} : ∀ {i : Nat}, (∀ k, k < i → f k = f' k) → anyB f i = anyB f' i
  | 0, _ => rfl
  | i + 1, h => by rw [anyB, anyB, anyB_cong (fun k hk => h k (by omega)), h i (by omega)]
theorem anyB_no {p : Nat → Bool} : ∀ {i : Nat}, anyB p i = false ↔ ∀ k, k < i → p k = false
  | 0 => ⟨fun _ k hk => by omega, fun _ => rfl⟩
  | i + 1 => by
    rw [anyB, Bool.or_eq_false_iff, anyB_no]
    refine ⟨fun z k hk => ?_, fun z => ⟨fun k hk => z k (by omega), z i (by omega)⟩⟩
    by_cases e : k = i
    · subst e; exact z.2
    · exact z.1 k (by omega)
theorem anyB_first {p : Nat → Bool} {c : Nat} : anyB p c = (firstF p c 0).isSome := by
  cases hf : firstF p c 0 with
  | none =>
    rw [firstF_no] at hf
    exact anyB_no.mpr (fun k hk => hf k (by omega) (by omega))
  | some t =>
    obtain ⟨h1, h2, h3, h4⟩ := firstF_ge hf
    cases ha : anyB p c with
    | true => rfl
    | false =>
      have := anyB_no.mp ha t (by omega)
      rw [h3] at this
      cases this
theorem lowN_or {s nx : Nat} (hs : s.testBit nx = false) : ∀ {c : Nat}, lowN (s ||| 2 ^ nx) c = lowN s c + if nx < c then 1 else 0
  | 0 => by simp [lowN]
  | c + 1 => by
    rw [lowN, lowN, lowN_or hs, Nat.testBit_or, Nat.testBit_two_pow]
    by_cases e : nx = c
    · subst e
      rw [hs]
      simp
    · by_cases e2 : nx < c
      · rw [if_pos e2, if_pos (show nx < c + 1 by omega)]
        simp [e]
        omega
      · rw [if_neg e2, if_neg (show ¬ nx < c + 1 by omega)]
        simp [e]
theorem opn_s {g : Nat → Nat} {t s nx : Nat} (h : opn g t s nx = true) : s.testBit nx = false := by
  unfold opn at h
  cases hs : s.testBit nx with
  | false => rfl
  | true => rw [hs] at h; simp at h
theorem lonF_fuel {g : Nat → Nat} {c : Nat} : ∀ {f t s : Nat}, c ≤ lowN s c + f → lonF g c (f + 1) t s = lonF g c f t s
  | 0, t, s, h => by
    rw [lonF, lonF]
    have all : ∀ k, k < c → s.testBit k = true := by
      have mo := lowN_mo (s := s) (s' := 2 ^ c - 1) (i := c) (fun b hb _ => by rw [full_bit]; simpa using hb)
      have l1 : lowN (2 ^ c - 1) c ≤ c := lowN_le _ _
      exact fun k hk => mo.2 (by omega) k hk (by rw [full_bit]; simpa using hk)
    have : ∀ i, i ≤ c → mxN (fun nx => if opn g t s nx then 1 + lonF g c 0 nx (s ||| 2 ^ nx) else 0) i = 0 := by
      intro i
      induction i with
      | zero => intro _; rfl
      | succ i ih =>
        intro hi
        rw [mxN, ih (by omega), if_neg (by unfold opn; rw [all i (by omega)]; simp)]
        rfl
    exact this c (Nat.le_refl c)
  | f + 1, t, s, h => by
    rw [lonF, lonF]
    refine mxN_cong (fun k hk => ?_)
    split
    · rename_i ho
      rw [lonF_fuel (by rw [lowN_or (opn_s ho), if_pos hk]; omega)]
    · rfl
theorem winF_fuel {g : Nat → Nat} {c : Nat} : ∀ {f t s : Nat}, c ≤ lowN s c + f → winF g c (f + 1) t s = winF g c f t s
  | 0, t, s, h => by
    rw [winF, winF]
    have all : ∀ k, k < c → s.testBit k = true := by
      have mo := lowN_mo (s := s) (s' := 2 ^ c - 1) (i := c) (fun b hb _ => by rw [full_bit]; simpa using hb)
      have l1 : lowN (2 ^ c - 1) c ≤ c := lowN_le _ _
      exact fun k hk => mo.2 (by omega) k hk (by rw [full_bit]; simpa using hk)
    exact anyB_no.mpr (fun k hk => by unfold opn; rw [all k hk]; simp)
  | f + 1, t, s, h => by
    rw [winF, winF]
    refine anyB_cong (fun k hk => ?_)
    cases ho : opn g t s k with
    | true => rw [winF_fuel (by rw [lowN_or (opn_s ho), if_pos hk]; omega)]
    | false => rfl
def Lo (g : Nat → Nat) (c t s : Nat) : Nat := lonF g c 6 t s
def Wi (g : Nat → Nat) (c t s : Nat) : Bool := winF g c 6 t s
theorem Lo_eq {g : Nat → Nat} {c : Nat} (hc : c ≤ 6) (t s : Nat) : Lo g c t s = mxN (fun nx => if opn g t s nx then 1 + Lo g c nx (s ||| 2 ^ nx) else 0) c := by
  unfold Lo
  rw [← lonF_fuel (by omega), lonF]
theorem Wi_eq {g : Nat → Nat} {c : Nat} (hc : c ≤ 6) (t s : Nat) : Wi g c t s = anyB (fun nx => opn g t s nx && !Wi g c nx (s ||| 2 ^ nx)) c := by
  unfold Wi
  rw [← winF_fuel (by omega), winF]
theorem mxN_bd {f : Nat → Nat} {M : Nat} : ∀ {i : Nat}, (∀ k, k < i → f k ≤ M) → mxN f i ≤ M
  | 0, _ => Nat.zero_le M
  | i + 1, h => by
    have := mxN_bd (f := f) (M := M) (i := i) (fun k hk => h k (by omega))
    have := h i (by omega)
    rw [mxN]
    omega
theorem mxN_ge {f : Nat → Nat} : ∀ {i k : Nat}, k < i → f k ≤ mxN f i
  | 0, k, h => by omega
  | i + 1, k, h => by
    rw [mxN]
    by_cases e : k = i
    · subst e; omega
    · have := mxN_ge (f := f) (i := i) (k := k) (by omega)
      omega
theorem lonF_bd {g : Nat → Nat} {c : Nat} : ∀ (f t s : Nat), lonF g c f t s ≤ c - lowN s c
  | 0, _, _ => Nat.zero_le _
  | f + 1, t, s => by
    rw [lonF]
    refine mxN_bd (fun k hk => ?_)
    split
    · rename_i ho
      have h1 := lonF_bd (g := g) (c := c) f k (s ||| 2 ^ k)
      rw [lowN_or (opn_s ho), if_pos hk] at h1
      have := lowN_le (s ||| 2 ^ k) c
      rw [lowN_or (opn_s ho), if_pos hk] at this
      omega
    · omega
theorem Lo_bd {g : Nat → Nat} {c t s : Nat} : Lo g c t s ≤ c - lowN s c := lonF_bd 6 t s
def taS (t i _j : Nat) : Prop := i = 0 ∧ (t = 57 ∨ t = 58)
/-- the tables are right from a set on -/
def TaR (σ : AM) (g : Nat → Nat) (c lo : Nat) : Prop := ∀ s t, lo ≤ s → s < 2 ^ c → t < c → σ.1 57 0 (6 * s + t) = Int32.ofInt (Lo g c t s : Nat) ∧ σ.1 58 0 (6 * s + t) = bI (Wi g c t s)
theorem s_m_laysTalk {CALL : CT} (hC : RuleAll CALL) {r : Nat} {σ : AM} {K : AV → AM → Prop} {h0 : Nat → Int} (hm : M0 σ h0) (hw : WF h0) (h : ∀ σ' : AM, Ch taS σ σ' → TaR σ' (nxS h0) (h0 0).toNat 1 → K unset σ') : CALL (r + 3) n_m_laysTalk [.inr (.inr (46, 0))] σ K := by
  refine r_m_laysTalk hC (fun J hJ => ?_)
  refine hJ _ _ _ _ ?_
  conv => whnf
  have b := hw.1
  have hp : (2 : Nat) ^ (h0 0).toNat ≤ 2 ^ 6 := Nat.pow_le_pow_right (by omega) (by omega)
  have hp0 : 0 < (2 : Nat) ^ (h0 0).toNat := Nat.pow_pos (by omega)
  have e0 : Int32.ofInt 1 <<< (Int32.ofInt (h0 0) &&& 31) = Int32.ofInt ((2 ^ (h0 0).toNat : Nat) : Int) := by
    rw [show Int32.ofInt (h0 0) = Int32.ofInt (((h0 0).toNat : Nat) : Int) by congr 1; omega, oi_shl (by omega)]
  have m0 : ∀ σ1 : AM, Ch taS σ σ1 → M0 σ1 h0 := fun σ1 hc => hm.ch hc (fun j hj => by unfold taS; omega)
  have hc6 : (h0 0).toNat ≤ 6 := by omega
  have rd : ∀ (s t : Nat), TaR σ (nxS h0) (h0 0).toNat s → True := fun _ _ _ => trivial
  have inner : ∀ (q nx s t : Nat) (x : AV) (σ1 : AM), nx + q = (h0 0).toNat → s < 2 ^ (h0 0).toNat → t < (h0 0).toNat → Ch taS σ σ1 → TaR σ1 (nxS h0) (h0 0).toNat (s + 1) → (∀ t', t' < t → σ1.1 57 0 (6 * s + t') = Int32.ofInt (Lo (nxS h0) (h0 0).toNat t' s : Nat) ∧ σ1.1 58 0 (6 * s + t') = bI (Wi (nxS h0) (h0 0).toNat t' s)) → σ1.1 57 0 (6 * s + t) = Int32.ofInt (mxN (fun nx => if opn (nxS h0) t s nx then 1 + Lo (nxS h0) (h0 0).toNat nx (s ||| 2 ^ nx) else 0) nx : Nat) → σ1.1 58 0 (6 * s + t) = bI (anyB (fun nx => opn (nxS h0) t s nx && !Wi (nxS h0) (h0 0).toNat nx (s ||| 2 ^ nx)) nx) → (∀ (σ2 : AM) (y : AV), Ch taS σ σ2 → TaR σ2 (nxS h0) (h0 0).toNat (s + 1) → (∀ t', t' < t + 1 → σ2.1 57 0 (6 * s + t') = Int32.ofInt (Lo (nxS h0) (h0 0).toNat t' s : Nat) ∧ σ2.1 58 0 (6 * s + t') = bI (Wi (nxS h0) (h0 0).toNat t' s)) → J 150 [.inr (.inr (46, 0)), .inl (Int32.ofInt (s : Int)), .inl (Int32.ofInt (t : Int)), .inl (Int32.ofInt ((6 * s + t : Nat) : Int)), .inl (Int32.ofInt ((h0 0).toNat : Nat)), y] [] σ2) → J 51 [.inr (.inr (46, 0)), .inl (Int32.ofInt (s : Int)), .inl (Int32.ofInt (t : Int)), .inl (Int32.ofInt ((6 * s + t : Nat) : Int)), .inl (Int32.ofInt (nx : Int)), x] [] σ1 := by
    intro q
    induction q with
    | zero =>
      intro nx s t x σ1 hi hs ht g1 g2 g3 g4 g5 hk
      have : nx = (h0 0).toNat := by omega
      subst this
      refine hJ _ _ _ _ ?_
      conv => whnf
      refine ⟨(oi_in (by omega) (by omega)).mpr ⟨by omega, by omega⟩, ?_⟩
      conv => whnf
      rw [show (Int32.ofInt 0).toNatClampNeg = 0 from rfl, (m0 σ1 g1) 0 (by omega)]
      refine ⟨fun c => ?_, fun c => ?_⟩ <;> (try simp (disch := omega) only [oi_le, oi_lt, oi_eq, oi_lt0, oi_le0, oi_0lt, oi_0le, oi_eq0, oi_eq1, bI_eq0, bI_ne0, bI_eq1, decide_eq_true_eq, decide_eq_false_iff_not, lc_lt, lc_gt, lc_eq, lc_ge, lc_le, ol_lt, ol_eq, ne_eq, Int.not_lt, Int.not_le, Bool.not_eq_true, Bool.not_eq_false, Decidable.not_not, not_true_eq_false, not_false_eq_true, Bool.true_eq_false, Bool.false_eq_true] at c) <;> (first | (exfalso; omega) | ((fail_if_success with_reducible refine hJ _ _ _ _ ?_); conv => whnf) | skip)
      refine hk σ1 x g1 g2 ?_
      intro t' ht'
      by_cases e : t' = t
      · subst e
        rw [Lo_eq hc6, Wi_eq hc6]
        exact ⟨g4, g5⟩
      · exact g3 t' (by omega)
    | succ q ih =>
      intro nx s t x σ1 hi hs ht g1 g2 g3 g4 g5 hk
      have htn : (nx : Int) < h0 0 := by omega
      have htt : (t : Int) < h0 0 := by omega
      have n1 := (nxS_lt hw htt).1
      have skip : opn (nxS h0) t s nx = false → J 144 [.inr (.inr (46, 0)), .inl (Int32.ofInt (s : Int)), .inl (Int32.ofInt (t : Int)), .inl (Int32.ofInt ((6 * s + t : Nat) : Int)), .inl (Int32.ofInt (nx : Int)), x] [] σ1 := by
        intro ho
        refine hJ _ _ _ _ ?_
        conv => whnf
        rw [oi_succ]
        refine ih (nx + 1) s t x σ1 (by omega) hs ht g1 g2 g3 ?_ ?_ hk
        · rw [mxN, if_neg (by rw [ho]; decide), Nat.max_eq_left (Nat.zero_le _)]
          exact g4
        · rw [anyB, ho, Bool.false_and, Bool.or_false]
          exact g5
      refine hJ _ _ _ _ ?_
      conv => whnf
      refine ⟨(oi_in (by omega) (by omega)).mpr ⟨by omega, by omega⟩, ?_⟩
      conv => whnf
      rw [show (Int32.ofInt 0).toNatClampNeg = 0 from rfl, (m0 σ1 g1) 0 (by omega)]
      refine ⟨fun c => ?_, fun c => ?_⟩ <;> (try simp (disch := omega) only [oi_le, oi_lt, oi_eq, oi_lt0, oi_le0, oi_0lt, oi_0le, oi_eq0, oi_eq1, bI_eq0, bI_ne0, bI_eq1, decide_eq_true_eq, decide_eq_false_iff_not, lc_lt, lc_gt, lc_eq, lc_ge, lc_le, ol_lt, ol_eq, ne_eq, Int.not_lt, Int.not_le, Bool.not_eq_true, Bool.not_eq_false, Decidable.not_not, not_true_eq_false, not_false_eq_true, Bool.true_eq_false, Bool.false_eq_true] at c) <;> (first | (exfalso; omega) | ((with_reducible refine hJ _ _ _ _ ?_); conv => whnf) | (conv => whnf))
      refine s_m_nextOf hC (m0 σ1 g1) (by omega) ?_
      conv => whnf
      rw [(nxS_lt hw htt).2]
      refine s_m_isIn hC (by omega) (by omega) ?_
      conv => whnf
      refine ⟨fun c2 => ?_, fun c2 => ?_⟩ <;> (try simp (disch := omega) only [oi_le, oi_lt, oi_eq, oi_lt0, oi_le0, oi_0lt, oi_0le, oi_eq0, oi_eq1, bI_eq0, bI_ne0, bI_eq1, decide_eq_true_eq, decide_eq_false_iff_not, lc_lt, lc_gt, lc_eq, lc_ge, lc_le, ol_lt, ol_eq, ne_eq, Int.not_lt, Int.not_le, Bool.not_eq_true, Bool.not_eq_false, Decidable.not_not, not_true_eq_false, not_false_eq_true, Bool.true_eq_false, Bool.false_eq_true] at c2) <;> (first | (exfalso; omega) | ((fail_if_success with_reducible refine hJ _ _ _ _ ?_); conv => whnf) | skip)
      · exact skip (by unfold opn; rw [c2]; rfl)
      · refine s_m_isIn hC (by omega) (by omega) ?_
        conv => whnf
        refine ⟨fun c3 => ?_, fun c3 => ?_⟩ <;> (try simp (disch := omega) only [oi_le, oi_lt, oi_eq, oi_lt0, oi_le0, oi_0lt, oi_0le, oi_eq0, oi_eq1, bI_eq0, bI_ne0, bI_eq1, decide_eq_true_eq, decide_eq_false_iff_not, lc_lt, lc_gt, lc_eq, lc_ge, lc_le, ol_lt, ol_eq, ne_eq, Int.not_lt, Int.not_le, Bool.not_eq_true, Bool.not_eq_false, Decidable.not_not, not_true_eq_false, not_false_eq_true, Bool.true_eq_false, Bool.false_eq_true] at c3) <;> (first | (exfalso; omega) | ((with_reducible refine hJ _ _ _ _ ?_); conv => whnf) | (conv => whnf))
        · have ho : opn (nxS h0) t s nx = true := by unfold opn; rw [c2, c3]; rfl
          have hor : s ||| 2 ^ nx < 2 ^ (h0 0).toNat := Nat.or_lt_two_pow hs (Nat.pow_lt_pow_right (by omega) (by omega))
          have hgt : s < s ||| 2 ^ nx := by
            have h1 : s ≤ s ||| 2 ^ nx := Nat.left_le_or
            have h2 : s ≠ s ||| 2 ^ nx := fun z => by
              have : (s ||| 2 ^ nx).testBit nx = true := by rw [Nat.testBit_or, Nat.testBit_two_pow]; simp
              rw [← z, c3] at this
              cases this
            omega
          have tb := g2 (s ||| 2 ^ nx) nx (by omega) hor (by omega)
          have lb := @Lo_bd (nxS h0) (h0 0).toNat nx (s ||| 2 ^ nx)
          have mb : mxN (fun nx => if opn (nxS h0) t s nx then 1 + Lo (nxS h0) (h0 0).toNat nx (s ||| 2 ^ nx) else 0) nx ≤ 7 := mxN_bd (fun k _ => by
            split
            · have := @Lo_bd (nxS h0) (h0 0).toNat k (s ||| 2 ^ k)
              omega
            · omega)
          rw [oi_shl (by omega), oi_or, oi_mul, oi_add]
          refine ⟨(oi_in (by omega) (by omega)).mpr ⟨by omega, by omega⟩, ?_⟩
          conv => whnf
          refine ⟨(oi_in (by omega) (by omega)).mpr ⟨by omega, by omega⟩, ?_⟩
          conv => whnf
          rw [oi_nat (by omega) (by omega), oi_nat (by omega) (by omega), Int.toNat_natCast, show (6 * ((s ||| 2 ^ nx : Nat) : Int) + (nx : Int)).toNat = 6 * (s ||| 2 ^ nx) + nx by omega, tb.1, g4, oi_add]
          refine s_maxI hC (by omega) (by omega) (by omega) (by omega) ?_
          conv => whnf
          refine ⟨(oi_in (by omega) (by omega)).mpr ⟨by omega, by omega⟩, ?_⟩
          conv => whnf
          refine ⟨(oi_in (by omega) (by omega)).mpr ⟨by omega, by omega⟩, ?_⟩
          conv => whnf
          rw [oi_nat (by omega) (by omega), Int.toNat_natCast, oi_nat (by omega) (by omega), show (6 * ((s ||| 2 ^ nx : Nat) : Int) + (nx : Int)).toNat = 6 * (s ||| 2 ^ nx) + nx by omega, wI1, if_neg (by omega), tb.2]
          have e57 : ∀ (σ2 : AM), σ2 = wI σ1 57 0 (6 * s + t) (Int32.ofInt (max (((mxN (fun nx => if opn (nxS h0) t s nx then 1 + Lo (nxS h0) (h0 0).toNat nx (s ||| 2 ^ nx) else 0) nx : Nat)) : Int) (1 + ((Lo (nxS h0) (h0 0).toNat nx (s ||| 2 ^ nx) : Nat) : Int)))) → Ch taS σ σ2 ∧ TaR σ2 (nxS h0) (h0 0).toNat (s + 1) ∧ (∀ t', t' < t → σ2.1 57 0 (6 * s + t') = Int32.ofInt (Lo (nxS h0) (h0 0).toNat t' s : Nat) ∧ σ2.1 58 0 (6 * s + t') = bI (Wi (nxS h0) (h0 0).toNat t' s)) ∧ σ2.1 57 0 (6 * s + t) = Int32.ofInt (mxN (fun nx => if opn (nxS h0) t s nx then 1 + Lo (nxS h0) (h0 0).toNat nx (s ||| 2 ^ nx) else 0) (nx + 1) : Nat) ∧ σ2.1 58 0 (6 * s + t) = bI (anyB (fun nx => opn (nxS h0) t s nx && !Wi (nxS h0) (h0 0).toNat nx (s ||| 2 ^ nx)) nx) := by
            intro σ2 h2
            subst h2
            refine ⟨g1.tr (Ch.wI ⟨rfl, Or.inl rfl⟩), fun s' t' a1 a2 a3 => ?_, fun t' a1 => ?_, ?_, ?_⟩
            · rw [wI1, if_neg (by omega), wI1, if_neg (by omega)]
              exact g2 s' t' a1 a2 a3
            · rw [wI1, if_neg (by omega), wI1, if_neg (by omega)]
              exact g3 t' a1
            · rw [wI1, if_pos ⟨rfl, rfl, rfl⟩, mxN, if_pos ho]
              congr 1
              omega
            · rw [wI1, if_neg (by omega)]
              exact g5
          obtain ⟨f1, f2, f3, f4, f5⟩ := e57 _ rfl
          generalize wI σ1 57 0 (6 * s + t) _ = σ2 at f1 f2 f3 f4 f5 ⊢
          refine ⟨fun c4 => ?_, fun c4 => ?_⟩ <;> (try simp (disch := omega) only [oi_le, oi_lt, oi_eq, oi_lt0, oi_le0, oi_0lt, oi_0le, oi_eq0, oi_eq1, bI_eq0, bI_ne0, bI_eq1, decide_eq_true_eq, decide_eq_false_iff_not, lc_lt, lc_gt, lc_eq, lc_ge, lc_le, ol_lt, ol_eq, ne_eq, Int.not_lt, Int.not_le, Bool.not_eq_true, Bool.not_eq_false, Decidable.not_not, not_true_eq_false, not_false_eq_true, Bool.true_eq_false, Bool.false_eq_true] at c4) <;> (first | (exfalso; omega) | ((with_reducible refine hJ _ _ _ _ ?_); conv => whnf) | (conv => whnf))
          · rw [oi_succ]
            refine ih (nx + 1) s t _ σ2 (by omega) hs ht f1 f2 f3 f4 ?_ hk
            rw [anyB, ho, c4, Bool.true_and, Bool.not_true, Bool.or_false]
            exact f5
          · refine ⟨(oi_in (by omega) (by omega)).mpr ⟨by omega, by omega⟩, ?_⟩
            conv => whnf
            refine ⟨Or.inr rfl, ?_⟩
            conv => whnf
            refine hJ _ _ _ _ ?_
            conv => whnf
            rw [oi_nat (by omega) (by omega), Int.toNat_natCast, oi_succ]
            refine ih (nx + 1) s t _ _ (by omega) hs ht (f1.tr (Ch.wI ⟨rfl, Or.inr rfl⟩)) (fun s' t' a1 a2 a3 => ?_) (fun t' a1 => ?_) ?_ ?_ hk
            · rw [wI1, if_neg (by omega), wI1, if_neg (by omega)]
              exact f2 s' t' a1 a2 a3
            · rw [wI1, if_neg (by omega), wI1, if_neg (by omega)]
              exact f3 t' a1
            · rw [wI1, if_neg (by omega)]
              exact f4
            · rw [wI1, if_pos ⟨rfl, rfl, rfl⟩, anyB, ho, c4, Bool.true_and, Bool.not_false, Bool.or_true]
              rfl
        · exact skip (by unfold opn; rw [c3]; simp)
  have mid : ∀ (q t s : Nat) (x3 x4 x5 : AV) (σ1 : AM), t + q = (h0 0).toNat → s < 2 ^ (h0 0).toNat → Ch taS σ σ1 → TaR σ1 (nxS h0) (h0 0).toNat (s + 1) → (∀ t', t' < t → σ1.1 57 0 (6 * s + t') = Int32.ofInt (Lo (nxS h0) (h0 0).toNat t' s : Nat) ∧ σ1.1 58 0 (6 * s + t') = bI (Wi (nxS h0) (h0 0).toNat t' s)) → (∀ (σ2 : AM) (y2 y3 y4 y5 : AV), Ch taS σ σ2 → TaR σ2 (nxS h0) (h0 0).toNat s → J 156 [.inr (.inr (46, 0)), .inl (Int32.ofInt (s : Int)), y2, y3, y4, y5] [] σ2) → J 17 [.inr (.inr (46, 0)), .inl (Int32.ofInt (s : Int)), .inl (Int32.ofInt (t : Int)), x3, x4, x5] [] σ1 := by
    intro q
    induction q with
    | zero =>
      intro t s x3 x4 x5 σ1 hi hs g1 g2 g3 hk
      refine hJ _ _ _ _ ?_
      conv => whnf
      refine ⟨(oi_in (by omega) (by omega)).mpr ⟨by omega, by omega⟩, ?_⟩
      conv => whnf
      rw [show (Int32.ofInt 0).toNatClampNeg = 0 from rfl, (m0 σ1 g1) 0 (by omega)]
      refine ⟨fun c => ?_, fun c => ?_⟩ <;> (try simp (disch := omega) only [oi_le, oi_lt, oi_eq, oi_lt0, oi_le0, oi_0lt, oi_0le, oi_eq0, oi_eq1, bI_eq0, bI_ne0, bI_eq1, decide_eq_true_eq, decide_eq_false_iff_not, lc_lt, lc_gt, lc_eq, lc_ge, lc_le, ol_lt, ol_eq, ne_eq, Int.not_lt, Int.not_le, Bool.not_eq_true, Bool.not_eq_false, Decidable.not_not, not_true_eq_false, not_false_eq_true, Bool.true_eq_false, Bool.false_eq_true] at c) <;> (first | (exfalso; omega) | ((fail_if_success with_reducible refine hJ _ _ _ _ ?_); conv => whnf) | skip)
      refine hk σ1 _ _ _ _ g1 ?_
      intro s' t' a1 a2 a3
      by_cases e : s' = s
      · subst e
        exact g3 t' (by omega)
      · exact g2 s' t' (by omega) a2 a3
    | succ q ih =>
      intro t s x3 x4 x5 σ1 hi hs g1 g2 g3 hk
      refine hJ _ _ _ _ ?_
      conv => whnf
      refine ⟨(oi_in (by omega) (by omega)).mpr ⟨by omega, by omega⟩, ?_⟩
      conv => whnf
      rw [show (Int32.ofInt 0).toNatClampNeg = 0 from rfl, (m0 σ1 g1) 0 (by omega)]
      refine ⟨fun c => ?_, fun c => ?_⟩ <;> (try simp (disch := omega) only [oi_le, oi_lt, oi_eq, oi_lt0, oi_le0, oi_0lt, oi_0le, oi_eq0, oi_eq1, bI_eq0, bI_ne0, bI_eq1, decide_eq_true_eq, decide_eq_false_iff_not, lc_lt, lc_gt, lc_eq, lc_ge, lc_le, ol_lt, ol_eq, ne_eq, Int.not_lt, Int.not_le, Bool.not_eq_true, Bool.not_eq_false, Decidable.not_not, not_true_eq_false, not_false_eq_true, Bool.true_eq_false, Bool.false_eq_true] at c) <;> (first | (exfalso; omega) | ((with_reducible refine hJ _ _ _ _ ?_); conv => whnf) | (conv => whnf))
      rw [oi_mul, oi_add, show (6 * (s : Int) + (t : Int)) = ((6 * s + t : Nat) : Int) by omega]
      refine ⟨(oi_in (by omega) (by omega)).mpr ⟨by omega, by omega⟩, ?_⟩
      conv => whnf
      refine ⟨(oi_in (by omega) (by omega)).mpr ⟨by omega, by omega⟩, ?_⟩
      conv => whnf
      refine ⟨Or.inl rfl, ?_⟩
      conv => whnf
      rw [oi_nat (by omega) (by omega), Int.toNat_natCast]
      refine inner (h0 0).toNat 0 s t x5 _ (by omega) hs (by omega) ((g1.tr (Ch.wI ⟨rfl, Or.inl rfl⟩)).tr (Ch.wI ⟨rfl, Or.inr rfl⟩)) (fun s' t' a1 a2 a3 => ?_) (fun t' a1 => ?_) ?_ ?_ ?_
      · rw [wI1, if_neg (by omega), wI1, if_neg (by omega), wI1, if_neg (by omega), wI1, if_neg (by omega)]
        exact g2 s' t' a1 a2 a3
      · rw [wI1, if_neg (by omega), wI1, if_neg (by omega), wI1, if_neg (by omega), wI1, if_neg (by omega)]
        exact g3 t' a1
      · rw [wI1, if_neg (by omega), wI1, if_pos ⟨rfl, rfl, rfl⟩]
        rfl
      · rw [wI1, if_pos ⟨rfl, rfl, rfl⟩]
        rfl
      · intro σ2 y f1 f2 f3
        refine hJ _ _ _ _ ?_
        conv => whnf
        rw [oi_succ]
        exact ih (t + 1) s _ _ _ σ2 (by omega) hs f1 f2 f3 hk
  have outer : ∀ (s : Nat) (x2 x3 x4 x5 : AV) (σ1 : AM), s < 2 ^ (h0 0).toNat → Ch taS σ σ1 → TaR σ1 (nxS h0) (h0 0).toNat (s + 1) → J 11 [.inr (.inr (46, 0)), .inl (Int32.ofInt (s : Int)), x2, x3, x4, x5] [] σ1 := by
    intro s
    induction s with
    | zero =>
      intro x2 x3 x4 x5 σ1 hs g1 g2
      refine hJ _ _ _ _ ?_
      conv => whnf
      refine ⟨fun c => ?_, fun c => ?_⟩ <;> (try simp (disch := omega) only [oi_le, oi_lt, oi_eq, oi_lt0, oi_le0, oi_0lt, oi_0le, oi_eq0, oi_eq1, bI_eq0, bI_ne0, bI_eq1, decide_eq_true_eq, decide_eq_false_iff_not, lc_lt, lc_gt, lc_eq, lc_ge, lc_le, ol_lt, ol_eq, ne_eq, Int.not_lt, Int.not_le, Bool.not_eq_true, Bool.not_eq_false, Decidable.not_not, not_true_eq_false, not_false_eq_true, Bool.true_eq_false, Bool.false_eq_true] at c) <;> (first | (exfalso; omega) | ((with_reducible refine hJ _ _ _ _ ?_); conv => whnf) | (conv => whnf))
      exact h σ1 g1 g2
    | succ s ih =>
      intro x2 x3 x4 x5 σ1 hs g1 g2
      refine hJ _ _ _ _ ?_
      conv => whnf
      refine ⟨fun c => ?_, fun c => ?_⟩ <;> (try simp (disch := omega) only [oi_le, oi_lt, oi_eq, oi_lt0, oi_le0, oi_0lt, oi_0le, oi_eq0, oi_eq1, bI_eq0, bI_ne0, bI_eq1, decide_eq_true_eq, decide_eq_false_iff_not, lc_lt, lc_gt, lc_eq, lc_ge, lc_le, ol_lt, ol_eq, ne_eq, Int.not_lt, Int.not_le, Bool.not_eq_true, Bool.not_eq_false, Decidable.not_not, not_true_eq_false, not_false_eq_true, Bool.true_eq_false, Bool.false_eq_true] at c) <;> (first | (exfalso; omega) | ((with_reducible refine hJ _ _ _ _ ?_); conv => whnf) | (conv => whnf))
      refine mid (h0 0).toNat 0 (s + 1) _ _ _ σ1 (by omega) hs g1 g2 (fun t' h => by omega) ?_
      intro σ2 y2 y3 y4 y5 f1 f2
      refine hJ _ _ _ _ ?_
      conv => whnf
      rw [oi_add, show (((s + 1 : Nat)) : Int) + -1 = (s : Int) by omega]
      exact ih _ _ _ _ σ2 (by omega) f1 f2
  refine ⟨(oi_in (by omega) (by omega)).mpr ⟨by omega, by omega⟩, ?_⟩
  conv => whnf
  rw [show (Int32.ofInt 0).toNatClampNeg = 0 from rfl, hm 0 (by omega)]
  rw [e0, oi_sub, show ((2 ^ (h0 0).toNat : Nat) : Int) - 1 = ((2 ^ (h0 0).toNat - 1 : Nat) : Int) by omega]
  exact outer (2 ^ (h0 0).toNat - 1) _ _ _ _ σ (by omega) Ch.rf (fun s' t' a1 a2 a3 => by omega)
/-! the game -/
theorem inv_and : ∀ (a s : Fin 64), Int32.ofInt (a.val : Int) &&& (Int32.ofInt (s.val : Int) ^^^ Int32.ofInt (-1)) = Int32.ofInt ((a.val &&& (63 - s.val) : Nat) : Int) := by decide +kernel
theorem inv_bit : ∀ (s : Fin 64) (k : Fin 6), (63 - s.val).testBit k.val = !s.val.testBit k.val := by decide +kernel
theorem opn_and {g : Nat → Nat} {t s nx : Nat} (hs : s < 64) (hn : nx < 6) : (g t &&& (63 - s)).testBit nx = opn g t s nx := by
  have := inv_bit ⟨s, hs⟩ ⟨nx, hn⟩
  simp only at this
  rw [Nat.testBit_and, this]
  rfl
def winP (h : Nat → Int) (t s nx : Nat) : Bool := opn (nxS h) t s nx && !Wi (nxS h) (h 0).toNat nx (s ||| 2 ^ nx)
theorem Wi_none {h : Nat → Int} (hw : WF h) (t s : Nat) : Wi (nxS h) (h 0).toNat t s = false ↔ firstF (winP h t s) (h 0).toNat 0 = none := by
  have b := hw.1
  rw [Wi_eq (by omega), anyB_first]
  unfold winP
  cases firstF (fun nx => opn (nxS h) t s nx && !Wi (nxS h) (h 0).toNat nx (s ||| 2 ^ nx)) (h 0).toNat 0 with
  | none => simp
  | some t => simp
theorem s_winner1 {CALL : CT} (hC : RuleAll CALL) {n r : Nat} {h0 : Nat → Int} {σ : AM} {K : AV → AM → Prop} {t s : Nat} (hr : HRep σ n h0) (hw : WF h0) (ht : (t : Int) < h0 0) (hs : s < 64) (rec : ∀ (nx : Nat) (K' : AV → AM → Prop), (nx : Int) < h0 0 → opn (nxS h0) t s nx = true → K' (.inl (Int32.ofInt (opI (firstF (winP h0 nx (s ||| 2 ^ nx)) (h0 0).toNat 0)))) σ → CALL (r + 1) n_Talk_winner [.inr (.inr (23, n)), .inl (Int32.ofInt (nx : Int)), .inl (Int32.ofInt ((s ||| 2 ^ nx : Nat) : Int))] σ K') (h : K (.inl (Int32.ofInt (opI (firstF (winP h0 t s) (h0 0).toNat 0)))) σ) : CALL (r + 2) n_Talk_winner [.inr (.inr (23, n)), .inl (Int32.ofInt (t : Int)), .inl (Int32.ofInt (s : Int))] σ K := by
  have b := hw.1
  have hnl := (nxS_lt hw ht).1
  refine r_Talk_winner hC (fun J hJ => ?_)
  refine hJ _ _ _ _ ?_
  conv => whnf
  refine ⟨(oi_in (by omega) (by omega)).mpr ⟨by omega, by omega⟩, ?_⟩
  conv => whnf
  rw [oi_nat (by omega) (by omega), Int.toNat_natCast, hr_nx hr hw ht, inv_and ⟨nxS h0 t, hnl⟩ ⟨s, hs⟩]
  simp only
  have hal : nxS h0 t &&& (63 - s) < 64 := Nat.and_lt_two_pow (n := 6) _ (by omega)
  generalize hW : firstF (winP h0 t s) (h0 0).toNat 0 = W at h
  have loop : ∀ (q i : Nat), i + q = (h0 0).toNat → W = firstF (winP h0 t s) q i → J 14 [.inr (.inr (23, n)), .inl (Int32.ofInt (t : Int)), .inl (Int32.ofInt (s : Int)), .inl (Int32.ofInt ((nxS h0 t &&& (63 - s) : Nat) : Int)), .inl (Int32.ofInt (i : Int))] [] σ := by
    intro q
    induction q with
    | zero =>
      intro i hi g
      refine hJ _ _ _ _ ?_
      conv => whnf
      rw [hr.1]
      refine ⟨fun c => ?_, fun c => ?_⟩ <;> (try simp (disch := omega) only [oi_le, oi_lt, oi_eq, oi_lt0, oi_le0, oi_0lt, oi_0le, oi_eq0, oi_eq1, bI_eq0, bI_ne0, bI_eq1, decide_eq_true_eq, decide_eq_false_iff_not, lc_lt, lc_gt, lc_eq, lc_ge, lc_le, ol_lt, ol_eq, ne_eq, Int.not_lt, Int.not_le, Bool.not_eq_true, Bool.not_eq_false, Decidable.not_not, not_true_eq_false, not_false_eq_true, Bool.true_eq_false, Bool.false_eq_true] at c) <;> (first | (exfalso; omega) | ((with_reducible refine hJ _ _ _ _ ?_); conv => whnf) | (conv => whnf))
      rw [g] at h
      exact h
    | succ q ih =>
      intro i hi g
      rw [firstF] at g
      refine hJ _ _ _ _ ?_
      conv => whnf
      rw [hr.1]
      refine ⟨fun c => ?_, fun c => ?_⟩ <;> (try simp (disch := omega) only [oi_le, oi_lt, oi_eq, oi_lt0, oi_le0, oi_0lt, oi_0le, oi_eq0, oi_eq1, bI_eq0, bI_ne0, bI_eq1, decide_eq_true_eq, decide_eq_false_iff_not, lc_lt, lc_gt, lc_eq, lc_ge, lc_le, ol_lt, ol_eq, ne_eq, Int.not_lt, Int.not_le, Bool.not_eq_true, Bool.not_eq_false, Decidable.not_not, not_true_eq_false, not_false_eq_true, Bool.true_eq_false, Bool.false_eq_true] at c) <;> (first | (exfalso; omega) | ((with_reducible refine hJ _ _ _ _ ?_); conv => whnf) | (conv => whnf))
      refine s_has hC (by omega) (by omega) ?_
      conv => whnf
      rw [opn_and hs (by omega)]
      refine ⟨fun c2 => ?_, fun c2 => ?_⟩ <;> (try simp (disch := omega) only [oi_le, oi_lt, oi_eq, oi_lt0, oi_le0, oi_0lt, oi_0le, oi_eq0, oi_eq1, bI_eq0, bI_ne0, bI_eq1, decide_eq_true_eq, decide_eq_false_iff_not, lc_lt, lc_gt, lc_eq, lc_ge, lc_le, ol_lt, ol_eq, ne_eq, Int.not_lt, Int.not_le, Bool.not_eq_true, Bool.not_eq_false, Decidable.not_not, not_true_eq_false, not_false_eq_true, Bool.true_eq_false, Bool.false_eq_true] at c2) <;> (first | (exfalso; omega) | ((with_reducible refine hJ _ _ _ _ ?_); conv => whnf) | (conv => whnf))
      · rw [oi_succ]
        rw [if_neg (by unfold winP; rw [c2]; simp)] at g
        exact ih (i + 1) (by omega) g
      · refine s_with hC (b := true) (by omega) (by omega) ?_
        conv => whnf
        rw [show setW s i true = s ||| 2 ^ i from rfl]
        refine rec i _ (by omega) c2 ?_
        conv => whnf
        have hfb : -1 ≤ opI (firstF (winP h0 i (s ||| 2 ^ i)) (h0 0).toNat 0) ∧ opI (firstF (winP h0 i (s ||| 2 ^ i)) (h0 0).toNat 0) < 7 := by
          cases hf : firstF (winP h0 i (s ||| 2 ^ i)) (h0 0).toNat 0 with
          | none => exact ⟨by decide, by decide⟩
          | some t' =>
            have := firstF_ge hf
            show -1 ≤ (t' : Int) ∧ (t' : Int) < 7
            omega
        refine ⟨fun c3 => ?_, fun c3 => ?_⟩ <;> (try simp (disch := omega) only [oi_le, oi_lt, oi_eq, oi_lt0, oi_le0, oi_0lt, oi_0le, oi_eq0, oi_eq1, bI_eq0, bI_ne0, bI_eq1, decide_eq_true_eq, decide_eq_false_iff_not, lc_lt, lc_gt, lc_eq, lc_ge, lc_le, ol_lt, ol_eq, ne_eq, Int.not_lt, Int.not_le, Bool.not_eq_true, Bool.not_eq_false, Decidable.not_not, not_true_eq_false, not_false_eq_true, Bool.true_eq_false, Bool.false_eq_true] at c3) <;> (first | (exfalso; omega) | ((with_reducible refine hJ _ _ _ _ ?_); conv => whnf) | (conv => whnf))
        · have hn : Wi (nxS h0) (h0 0).toNat i (s ||| 2 ^ i) = true := by
            cases hb : Wi (nxS h0) (h0 0).toNat i (s ||| 2 ^ i) with
            | true => rfl
            | false => exact absurd (opI_n.mpr ((Wi_none hw _ _).mp hb)) c3
          rw [oi_succ]
          rw [if_neg (by unfold winP; rw [hn]; simp)] at g
          exact ih (i + 1) (by omega) g
        · have hn := (Wi_none hw _ _).mpr (opI_n.mp c3)
          rw [if_pos (by unfold winP; rw [hn, c2]; rfl)] at g
          rw [g] at h
          exact h
  exact loop (h0 0).toNat 0 (by omega) hW.symm
theorem low_full {s c : Nat} (h : c ≤ lowN s c) : ∀ k, k < c → s.testBit k = true := by
  have mo := lowN_mo (s := s) (s' := 2 ^ c - 1) (i := c) (fun b hb _ => by rw [full_bit]; simpa using hb)
  have l1 : lowN (2 ^ c - 1) c ≤ c := lowN_le _ _
  exact fun k hk => mo.2 (by omega) k hk (by rw [full_bit]; simpa using hk)
theorem s_winner {CALL : CT} (hC : RuleAll CALL) {n : Nat} {h0 : Nat → Int} {σ : AM} (hr : HRep σ n h0) (hw : WF h0) : ∀ (f r : Nat) {K : AV → AM → Prop} {t s : Nat}, (t : Int) < h0 0 → s < 64 → (h0 0).toNat ≤ lowN s (h0 0).toNat + f → K (.inl (Int32.ofInt (opI (firstF (winP h0 t s) (h0 0).toNat 0)))) σ → CALL (r + f + 2) n_Talk_winner [.inr (.inr (23, n)), .inl (Int32.ofInt (t : Int)), .inl (Int32.ofInt (s : Int))] σ K := by
  have b := hw.1
  intro f
  induction f with
  | zero =>
    intro r K t s ht hs hl h
    refine s_winner1 hC hr hw ht hs (fun nx K' h1 h2 _ => ?_) h
    have := low_full hl nx (by omega)
    rw [opn_s h2] at this
    cases this
  | succ f ih =>
    intro r K t s ht hs hl h
    refine s_winner1 hC hr hw ht hs (fun nx K' h1 h2 h3 => ?_) h
    refine ih r h1 (Nat.or_lt_two_pow (n := 6) hs (Nat.pow_lt_pow_right (by omega) (by omega))) ?_ h3
    rw [lowN_or (opn_s h2), if_pos (by omega)]
    omega
theorem done4 {σ σ'' : AM} {x : Int32} {S : Nat → Nat → Nat → Prop} (hc : Ch S (wI σ 1 0 16 x) σ'') (hs : ∀ t i j, S t i j → ¬ keepI t i j) (h16 : ¬ S 1 0 16) : SC σ (wI σ'' 46 0 2 x) ∧ (wI σ'' 46 0 2 x).1 1 0 16 = (wI σ'' 46 0 2 x).1 46 0 2 := done3 (SC.wI nk_code) (by rw [wI1, if_pos ⟨rfl, rfl, rfl⟩]) hc hs h16
theorem taS_k : ∀ t i j, taS t i j → ¬ keepI t i j := by
  intro t i j h
  unfold taS at h
  unfold keepI
  omega
theorem taS_16 : ¬ taS 1 0 16 := by unfold taS; omega
theorem one_lt {h : Nat → Int} (hw : WF h) {t : Nat} (ht : (t : Int) < h 0) : (2 : Nat) ^ t < 2 ^ (h 0).toNat ∧ (2 : Nat) ^ t < 64 ∧ 1 ≤ (2 : Nat) ^ t := by
  have b := hw.1
  refine ⟨Nat.pow_lt_pow_right (by omega) (by omega), ?_, Nat.pow_pos (by omega)⟩
  exact Nat.pow_lt_pow_right (n := 6) (a := 2) (by omega) (by omega)
theorem op_wins {CALL : CT} (hC : RuleAll CALL) {r : Nat} {σ : AM} {K : AV → AV → AM → Prop} {n : Nat} {h0 : Nat → Int} (hn : NH σ n h0) {z : Int} (z1 : -2147483648 ≤ z) (z2 : z < 2147483648) (h : ∀ v σ2, SC σ σ2 → σ2.1 1 0 16 = σ2.1 46 0 2 → K v v σ2) : CALL (r + 20) n_x_wins [.inr (.inr (1, 0)), .inl (Int32.ofInt z)] σ (fun v σ1 => CALL (r + 20) n_m_wins [.inr (.inr (46, 0)), .inl (Int32.ofInt z)] σ1 (fun v' σ2 => K v v' σ2)) := by
  obtain ⟨n45, hnn, hr, hm, ⟨hw, hw67⟩, h59⟩ := id hn
  have b := hw.1
  obtain ⟨q0, q1, q2, q3, q4, q5, q6, q7, q8, q9, qa, qt, qm, qe⟩ := id hr
  refine r_x_wins hC (fun J hJ => ?_)
  refine hJ _ _ _ _ ?_
  conv => whnf
  refine s_isTopic hC hn z1 z2 ?_
  conv => whnf
  refine ⟨fun c => ?_, fun c => ?_⟩ <;> (try simp (disch := omega) only [oi_le, oi_lt, oi_eq, oi_lt0, oi_le0, oi_0lt, oi_0le, oi_eq0, oi_eq1, bI_eq0, bI_ne0, bI_eq1, decide_eq_true_eq, decide_eq_false_iff_not, lc_lt, lc_gt, lc_eq, lc_ge, lc_le, ol_lt, ol_eq, ne_eq, Int.not_lt, Int.not_le, Bool.not_eq_true, Bool.not_eq_false, Decidable.not_not, not_true_eq_false, not_false_eq_true, Bool.true_eq_false, Bool.false_eq_true] at c) <;> (first | (exfalso; omega) | ((with_reducible refine hJ _ _ _ _ ?_); conv => whnf) | (conv => whnf))
  · rw [hnn]
    refine ⟨by omega, ?_⟩
    conv => whnf
    obtain ⟨t, rfl⟩ : ∃ t : Nat, z = (t : Int) := ⟨z.toNat, by omega⟩
    have ht : (t : Int) < h0 0 := c.2
    have o2 := one_lt hw ht
    rw [oi_shl (by omega)]
    refine s_winner hC hr hw 6 _ ht o2.2.1 (by omega) ?_
    have fin : ∀ (bb : Bool), bb = Wi (nxS h0) (h0 0).toNat t (2 ^ t) → J 38 [.inr (.inr (1, 0)), .inl (Int32.ofInt (t : Int))] [.inl (bI bb), .inr (.inr (1, 0))] σ := by
      intro bb hb
      refine hJ _ _ _ _ ?_
      conv => whnf
      refine s_truth hC ?_
      conv => whnf
      refine s_give hC ?_
      conv => whnf
      refine r_m_wins hC (fun J hJ => ?_)
      refine hJ _ _ _ _ ?_
      conv => whnf
      rw [oi_l (by omega) (by omega)]
      refine s_m_isTopic hC hm.c hw (by omega) (by omega) ?_
      conv => whnf
      refine ⟨fun c2 => ?_, fun c2 => ?_⟩ <;> (try simp (disch := omega) only [oi_le, oi_lt, oi_eq, oi_lt0, oi_le0, oi_0lt, oi_0le, oi_eq0, oi_eq1, bI_eq0, bI_ne0, bI_eq1, decide_eq_true_eq, decide_eq_false_iff_not, lc_lt, lc_gt, lc_eq, lc_ge, lc_le, ol_lt, ol_eq, ne_eq, Int.not_lt, Int.not_le, Bool.not_eq_true, Bool.not_eq_false, Decidable.not_not, not_true_eq_false, not_false_eq_true, Bool.true_eq_false, Bool.false_eq_true] at c2) <;> (first | (exfalso; omega) | ((with_reducible refine hJ _ _ _ _ ?_); conv => whnf) | (conv => whnf))
      refine s_m_laysTalk hC hm.c hw ?_
      intro σ2 f1 f2
      have tb := f2 (2 ^ t) t o2.2.2 o2.1 (by omega)
      have dn := done4 f1 taS_k taS_16
      conv => whnf
      rw [oi_shl (by omega), oi_mul, oi_add]
      refine ⟨(oi_in (by omega) (by omega)).mpr ⟨by omega, by omega⟩, ?_⟩
      conv => whnf
      rw [oi_nat (by omega) (by omega), show (6 * ((2 ^ t : Nat) : Int) + (t : Int)).toNat = 6 * 2 ^ t + t by omega, tb.2, ← hb]
      refine ⟨fun c3 => ?_, fun c3 => ?_⟩ <;> (try simp (disch := omega) only [oi_le, oi_lt, oi_eq, oi_lt0, oi_le0, oi_0lt, oi_0le, oi_eq0, oi_eq1, bI_eq0, bI_ne0, bI_eq1, decide_eq_true_eq, decide_eq_false_iff_not, lc_lt, lc_gt, lc_eq, lc_ge, lc_le, ol_lt, ol_eq, ne_eq, Int.not_lt, Int.not_le, Bool.not_eq_true, Bool.not_eq_false, Decidable.not_not, not_true_eq_false, not_false_eq_true, Bool.true_eq_false, Bool.false_eq_true] at c3) <;> (first | (exfalso; omega) | ((with_reducible refine hJ _ _ _ _ ?_); conv => whnf) | (conv => whnf))
      · refine hJ _ _ _ _ ?_
        conv => whnf
        refine s_m_gives hC ?_
        conv => whnf
        rw [c3]
        exact h _ _ dn.1 dn.2
      · refine hJ _ _ _ _ ?_
        conv => whnf
        refine s_m_gives hC ?_
        conv => whnf
        rw [c3]
        exact h _ _ dn.1 dn.2
    conv => whnf
    cases hf : firstF (winP h0 t (2 ^ t)) (h0 0).toNat 0 with
    | none =>
      rw [show opI none = -1 from rfl]
      refine ⟨fun c3 => ?_, fun c3 => ?_⟩ <;> (try simp (disch := omega) only [oi_le, oi_lt, oi_eq, oi_lt0, oi_le0, oi_0lt, oi_0le, oi_eq0, oi_eq1, bI_eq0, bI_ne0, bI_eq1, decide_eq_true_eq, decide_eq_false_iff_not, lc_lt, lc_gt, lc_eq, lc_ge, lc_le, ol_lt, ol_eq, ne_eq, Int.not_lt, Int.not_le, Bool.not_eq_true, Bool.not_eq_false, Decidable.not_not, not_true_eq_false, not_false_eq_true, Bool.true_eq_false, Bool.false_eq_true] at c3) <;> (first | (exfalso; omega) | ((with_reducible refine hJ _ _ _ _ ?_); conv => whnf) | (conv => whnf))
      exact fin false ((Wi_none hw _ _).mpr hf).symm
    | some t' =>
      have := firstF_ge hf
      rw [show opI (some t') = (t' : Int) from rfl]
      refine ⟨fun c3 => ?_, fun c3 => ?_⟩ <;> (try simp (disch := omega) only [oi_le, oi_lt, oi_eq, oi_lt0, oi_le0, oi_0lt, oi_0le, oi_eq0, oi_eq1, bI_eq0, bI_ne0, bI_eq1, decide_eq_true_eq, decide_eq_false_iff_not, lc_lt, lc_gt, lc_eq, lc_ge, lc_le, ol_lt, ol_eq, ne_eq, Int.not_lt, Int.not_le, Bool.not_eq_true, Bool.not_eq_false, Decidable.not_not, not_true_eq_false, not_false_eq_true, Bool.true_eq_false, Bool.false_eq_true] at c3) <;> (first | (exfalso; omega) | ((with_reducible refine hJ _ _ _ _ ?_); conv => whnf) | (conv => whnf))
      refine fin true ?_
      cases hb : Wi (nxS h0) (h0 0).toNat t (2 ^ t) with
      | true => rfl
      | false => rw [(Wi_none hw _ _).mp hb] at hf; cases hf
  · refine s_none hC ?_
    conv => whnf
    refine r_m_wins hC (fun J hJ => ?_)
    refine hJ _ _ _ _ ?_
    conv => whnf
    rw [oi_l (by omega) (by omega)]
    refine s_m_isTopic hC hm.c hw (by omega) (by omega) ?_
    conv => whnf
    refine ⟨fun c2 => ?_, fun c2 => ?_⟩ <;> (try simp (disch := omega) only [oi_le, oi_lt, oi_eq, oi_lt0, oi_le0, oi_0lt, oi_0le, oi_eq0, oi_eq1, bI_eq0, bI_ne0, bI_eq1, decide_eq_true_eq, decide_eq_false_iff_not, lc_lt, lc_gt, lc_eq, lc_ge, lc_le, ol_lt, ol_eq, ne_eq, Int.not_lt, Int.not_le, Bool.not_eq_true, Bool.not_eq_false, Decidable.not_not, not_true_eq_false, not_false_eq_true, Bool.true_eq_false, Bool.false_eq_true] at c2) <;> (first | (exfalso; omega) | ((with_reducible refine hJ _ _ _ _ ?_); conv => whnf) | (conv => whnf))
    refine s_m_refuse hC ?_
    conv => whnf
    exact h _ _ done2.1 done2.2
theorem op_best {CALL : CT} (hC : RuleAll CALL) {r : Nat} {σ : AM} {K : AV → AV → AM → Prop} {n : Nat} {h0 : Nat → Int} (hn : NH σ n h0) {z : Int} (z1 : -2147483648 ≤ z) (z2 : z < 2147483648) (h : ∀ v σ2, SC σ σ2 → σ2.1 1 0 16 = σ2.1 46 0 2 → K v v σ2) : CALL (r + 20) n_x_best [.inr (.inr (1, 0)), .inl (Int32.ofInt z)] σ (fun v σ1 => CALL (r + 20) n_m_best [.inr (.inr (46, 0)), .inl (Int32.ofInt z)] σ1 (fun v' σ2 => K v v' σ2)) := by
  obtain ⟨n45, hnn, hr, hm, ⟨hw, hw67⟩, h59⟩ := id hn
  have b := hw.1
  obtain ⟨q0, q1, q2, q3, q4, q5, q6, q7, q8, q9, qa, qt, qm, qe⟩ := id hr
  refine r_x_best hC (fun J hJ => ?_)
  refine hJ _ _ _ _ ?_
  conv => whnf
  refine s_isTopic hC hn z1 z2 ?_
  conv => whnf
  refine ⟨fun c => ?_, fun c => ?_⟩ <;> (try simp (disch := omega) only [oi_le, oi_lt, oi_eq, oi_lt0, oi_le0, oi_0lt, oi_0le, oi_eq0, oi_eq1, bI_eq0, bI_ne0, bI_eq1, decide_eq_true_eq, decide_eq_false_iff_not, lc_lt, lc_gt, lc_eq, lc_ge, lc_le, ol_lt, ol_eq, ne_eq, Int.not_lt, Int.not_le, Bool.not_eq_true, Bool.not_eq_false, Decidable.not_not, not_true_eq_false, not_false_eq_true, Bool.true_eq_false, Bool.false_eq_true] at c) <;> (first | (exfalso; omega) | ((with_reducible refine hJ _ _ _ _ ?_); conv => whnf) | (conv => whnf))
  · refine s_none hC ?_
    conv => whnf
    refine hJ _ _ _ _ ?_
    conv => whnf
    refine r_m_best hC (fun J hJ => ?_)
    refine hJ _ _ _ _ ?_
    conv => whnf
    rw [oi_l (by omega) (by omega)]
    refine s_m_isTopic hC hm.c hw (by omega) (by omega) ?_
    conv => whnf
    refine ⟨fun c2 => ?_, fun c2 => ?_⟩ <;> (try simp (disch := omega) only [oi_le, oi_lt, oi_eq, oi_lt0, oi_le0, oi_0lt, oi_0le, oi_eq0, oi_eq1, bI_eq0, bI_ne0, bI_eq1, decide_eq_true_eq, decide_eq_false_iff_not, lc_lt, lc_gt, lc_eq, lc_ge, lc_le, ol_lt, ol_eq, ne_eq, Int.not_lt, Int.not_le, Bool.not_eq_true, Bool.not_eq_false, Decidable.not_not, not_true_eq_false, not_false_eq_true, Bool.true_eq_false, Bool.false_eq_true] at c2) <;> (first | (exfalso; omega) | ((with_reducible refine hJ _ _ _ _ ?_); conv => whnf) | (conv => whnf))
    refine s_m_refuse hC ?_
    conv => whnf
    exact h _ _ done2.1 done2.2
  · rw [hnn]
    refine ⟨by omega, ?_⟩
    conv => whnf
    obtain ⟨t, rfl⟩ : ∃ t : Nat, z = (t : Int) := ⟨z.toNat, by omega⟩
    have ht : (t : Int) < h0 0 := c.2
    have o2 := one_lt hw ht
    rw [oi_shl (by omega)]
    refine s_winner hC hr hw 6 _ ht o2.2.1 (by omega) ?_
    conv => whnf
    generalize hW : firstF (winP h0 t (2 ^ t)) (h0 0).toNat 0 = W
    have hWb : -1 ≤ opI W ∧ opI W < 7 := by
      cases hf : W with
      | none => exact ⟨by decide, by decide⟩
      | some t' =>
        rw [hf] at hW
        have := firstF_ge hW
        show -1 ≤ (t' : Int) ∧ (t' : Int) < 7
        omega
    refine s_giveOrNone hC (by omega) (by omega) ?_
    conv => whnf
    refine hJ _ _ _ _ ?_
    conv => whnf
    refine r_m_best hC (fun J hJ => ?_)
    refine hJ _ _ _ _ ?_
    conv => whnf
    rw [oi_l (by omega) (by omega)]
    refine s_m_isTopic hC hm.c hw (by omega) (by omega) ?_
    conv => whnf
    refine ⟨fun c2 => ?_, fun c2 => ?_⟩ <;> (try simp (disch := omega) only [oi_le, oi_lt, oi_eq, oi_lt0, oi_le0, oi_0lt, oi_0le, oi_eq0, oi_eq1, bI_eq0, bI_ne0, bI_eq1, decide_eq_true_eq, decide_eq_false_iff_not, lc_lt, lc_gt, lc_eq, lc_ge, lc_le, ol_lt, ol_eq, ne_eq, Int.not_lt, Int.not_le, Bool.not_eq_true, Bool.not_eq_false, Decidable.not_not, not_true_eq_false, not_false_eq_true, Bool.true_eq_false, Bool.false_eq_true] at c2) <;> (first | (exfalso; omega) | ((with_reducible refine hJ _ _ _ _ ?_); conv => whnf) | (conv => whnf))
    refine s_m_laysTalk hC hm.c hw ?_
    intro σ2 f1 f2
    have m2 : M0 σ2 h0 := hm.c.ch f1 (fun j hj => by unfold taS; omega)
    have dn := done4 f1 taS_k taS_16
    have hnl := nxS_lt hw ht
    conv => whnf
    have loop : ∀ (q i : Nat), i + q = (h0 0).toNat → W = firstF (winP h0 t (2 ^ t)) q i → J 21 [.inr (.inr (46, 0)), .inl (Int32.ofInt (t : Int)), .inl (Int32.ofInt (i : Int))] [] σ2 := by
      intro q
      induction q with
      | zero =>
        intro i hi g
        refine hJ _ _ _ _ ?_
        conv => whnf
        refine ⟨(oi_in (by omega) (by omega)).mpr ⟨by omega, by omega⟩, ?_⟩
        conv => whnf
        rw [show (Int32.ofInt 0).toNatClampNeg = 0 from rfl, m2 0 (by omega)]
        refine ⟨fun c3 => ?_, fun c3 => ?_⟩ <;> (try simp (disch := omega) only [oi_le, oi_lt, oi_eq, oi_lt0, oi_le0, oi_0lt, oi_0le, oi_eq0, oi_eq1, bI_eq0, bI_ne0, bI_eq1, decide_eq_true_eq, decide_eq_false_iff_not, lc_lt, lc_gt, lc_eq, lc_ge, lc_le, ol_lt, ol_eq, ne_eq, Int.not_lt, Int.not_le, Bool.not_eq_true, Bool.not_eq_false, Decidable.not_not, not_true_eq_false, not_false_eq_true, Bool.true_eq_false, Bool.false_eq_true] at c3) <;> (first | (exfalso; omega) | ((with_reducible refine hJ _ _ _ _ ?_); conv => whnf) | (conv => whnf))
        refine s_m_refuse hC ?_
        conv => whnf
        subst g
        exact h _ _ dn.1 dn.2
      | succ q ih =>
        intro i hi g
        rw [firstF] at g
        have skip : winP h0 t (2 ^ t) i = false → J 78 [.inr (.inr (46, 0)), .inl (Int32.ofInt (t : Int)), .inl (Int32.ofInt (i : Int))] [] σ2 := by
          intro hp
          refine hJ _ _ _ _ ?_
          conv => whnf
          rw [oi_succ]
          rw [if_neg (by rw [hp]; decide)] at g
          exact ih (i + 1) (by omega) g
        refine hJ _ _ _ _ ?_
        conv => whnf
        refine ⟨(oi_in (by omega) (by omega)).mpr ⟨by omega, by omega⟩, ?_⟩
        conv => whnf
        rw [show (Int32.ofInt 0).toNatClampNeg = 0 from rfl, m2 0 (by omega)]
        refine ⟨fun c3 => ?_, fun c3 => ?_⟩ <;> (try simp (disch := omega) only [oi_le, oi_lt, oi_eq, oi_lt0, oi_le0, oi_0lt, oi_0le, oi_eq0, oi_eq1, bI_eq0, bI_ne0, bI_eq1, decide_eq_true_eq, decide_eq_false_iff_not, lc_lt, lc_gt, lc_eq, lc_ge, lc_le, ol_lt, ol_eq, ne_eq, Int.not_lt, Int.not_le, Bool.not_eq_true, Bool.not_eq_false, Decidable.not_not, not_true_eq_false, not_false_eq_true, Bool.true_eq_false, Bool.false_eq_true] at c3) <;> (first | (exfalso; omega) | ((with_reducible refine hJ _ _ _ _ ?_); conv => whnf) | (conv => whnf))
        refine s_m_nextOf hC m2 (by omega) ?_
        conv => whnf
        rw [hnl.2]
        refine s_m_isIn hC (by omega) (by omega) ?_
        conv => whnf
        refine ⟨fun c4 => ?_, fun c4 => ?_⟩ <;> (try simp (disch := omega) only [oi_le, oi_lt, oi_eq, oi_lt0, oi_le0, oi_0lt, oi_0le, oi_eq0, oi_eq1, bI_eq0, bI_ne0, bI_eq1, decide_eq_true_eq, decide_eq_false_iff_not, lc_lt, lc_gt, lc_eq, lc_ge, lc_le, ol_lt, ol_eq, ne_eq, Int.not_lt, Int.not_le, Bool.not_eq_true, Bool.not_eq_false, Decidable.not_not, not_true_eq_false, not_false_eq_true, Bool.true_eq_false, Bool.false_eq_true] at c4) <;> (first | (exfalso; omega) | ((fail_if_success with_reducible refine hJ _ _ _ _ ?_); conv => whnf) | skip)
        · exact skip (by unfold winP opn; rw [c4]; rfl)
        · have tbit : (2 ^ t).testBit i = decide (t = i) := Nat.testBit_two_pow
          refine ⟨fun c5 => ?_, fun c5 => ?_⟩ <;> (try simp (disch := omega) only [oi_le, oi_lt, oi_eq, oi_lt0, oi_le0, oi_0lt, oi_0le, oi_eq0, oi_eq1, bI_eq0, bI_ne0, bI_eq1, decide_eq_true_eq, decide_eq_false_iff_not, lc_lt, lc_gt, lc_eq, lc_ge, lc_le, ol_lt, ol_eq, ne_eq, Int.not_lt, Int.not_le, Bool.not_eq_true, Bool.not_eq_false, Decidable.not_not, not_true_eq_false, not_false_eq_true, Bool.true_eq_false, Bool.false_eq_true] at c5) <;> (first | (exfalso; omega) | ((with_reducible refine hJ _ _ _ _ ?_); conv => whnf) | (conv => whnf))
          · have hor : 2 ^ t ||| 2 ^ i < 2 ^ (h0 0).toNat := Nat.or_lt_two_pow o2.1 (Nat.pow_lt_pow_right (by omega) (by omega))
            have hor2 : 2 ^ t ||| 2 ^ i < 64 := Nat.or_lt_two_pow (n := 6) o2.2.1 (Nat.pow_lt_pow_right (by omega) (by omega))
            have hge : 2 ^ t ≤ 2 ^ t ||| 2 ^ i := Nat.left_le_or
            have tb := f2 (2 ^ t ||| 2 ^ i) i (by omega) hor (by omega)
            rw [oi_shl (by omega), oi_shl (by omega), oi_or, oi_mul, oi_add]
            refine ⟨(oi_in (by omega) (by omega)).mpr ⟨by omega, by omega⟩, ?_⟩
            conv => whnf
            rw [oi_nat (by omega) (by omega), show (6 * ((2 ^ t ||| 2 ^ i : Nat) : Int) + (i : Int)).toNat = 6 * (2 ^ t ||| 2 ^ i) + i by omega, tb.2]
            have ho : opn (nxS h0) t (2 ^ t) i = true := by
              unfold opn
              rw [c4, tbit, decide_eq_false (by omega)]
              rfl
            refine ⟨fun c6 => ?_, fun c6 => ?_⟩ <;> (try simp (disch := omega) only [oi_le, oi_lt, oi_eq, oi_lt0, oi_le0, oi_0lt, oi_0le, oi_eq0, oi_eq1, bI_eq0, bI_ne0, bI_eq1, decide_eq_true_eq, decide_eq_false_iff_not, lc_lt, lc_gt, lc_eq, lc_ge, lc_le, ol_lt, ol_eq, ne_eq, Int.not_lt, Int.not_le, Bool.not_eq_true, Bool.not_eq_false, Decidable.not_not, not_true_eq_false, not_false_eq_true, Bool.true_eq_false, Bool.false_eq_true] at c6) <;> (first | (exfalso; omega) | ((fail_if_success with_reducible refine hJ _ _ _ _ ?_); conv => whnf) | skip)
            · exact skip (by unfold winP; rw [c6, ho]; rfl)
            · rw [if_pos (by unfold winP; rw [c6, ho]; rfl)] at g
              refine s_m_gives hC ?_
              conv => whnf
              rw [g, if_neg (by show ¬ ((i : Int) = -1); omega)] at dn
              rw [g]
              exact h _ _ dn.1 dn.2
          · exact skip (by unfold winP opn; rw [tbit, decide_eq_true (by omega)]; simp)
    exact loop (h0 0).toNat 0 (by omega) hW.symm
