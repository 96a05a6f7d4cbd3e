def TxM (σ : AM) (B : Nat → Int) (L : Nat) : Prop := σ.1 46 0 11 = Int32.ofInt (L : Int) ∧ ∀ j, j < L → σ.1 53 0 j = Int32.ofInt (sg8 (B j).toNat)
def tmS (t q j : Nat) : Prop := t = 46 ∧ q = 0 ∧ 12 ≤ j ∧ j ≤ 15
def TM (σ : AM) (B : Nat → Int) (L f : Nat) : Prop := f ≤ L ∧ σ.1 46 0 12 = Int32.ofInt (kdT B L f) ∧ σ.1 46 0 13 = Int32.ofInt (f : Int) ∧ (kdT B L f = 3 ∨ kdT B L f = 4 → σ.1 46 0 15 = Int32.ofInt (vlT B L f)) ∧ σ.1 46 0 14 = Int32.ofInt ((tokE B L f : Nat) : Int)
theorem TxM.ch {σ σ' : AM} {B : Nat → Int} {L : Nat} {S : Nat → Nat → Nat → Prop} (h : TxM σ B L) (e : Ch S σ σ') (h1 : ¬ S 46 0 11) (h2 : ∀ j, ¬ S 53 0 j) : TxM σ' B L := ⟨by rw [e.1 _ _ _ h1]; exact h.1, fun j hj => by rw [e.1 _ _ _ (h2 j)]; exact h.2 j hj⟩
theorem TxM.t {σ σ' : AM} {B : Nat → Int} {L : Nat} (h : TxM σ B L) (e : Ch tmS σ σ') : TxM σ' B L := h.ch e (by unfold tmS; omega) (fun j => by unfold tmS; omega)
def btA (B : Nat → Int) (L k : Nat) : Int := if k < L then B k else -1
theorem btA_bd {B : Nat → Int} {L k : Nat} (hB : BOk B L) : -1 ≤ btA B L k ∧ btA B L k ≤ 255 ∧ (btA B L k = -1 ↔ L ≤ k) := by
  unfold btA
  by_cases c : k < L
  · have := hB.2 k c
    rw [if_pos c]; omega
  · rw [if_neg c]; omega
theorem btA_lt {B : Nat → Int} {L k : Nat} (h : k < L) : btA B L k = B k := if_pos h
theorem sg_and : ∀ x : Nat, x < 256 → Int32.ofInt (sg8 x) &&& Int32.ofInt 255 = Int32.ofInt (x : Int) := by decide +kernel
theorem s_m_byteAt {CALL : CT} (hC : RuleAll CALL) {r : Nat} {σ : AM} {K : AV → AM → Prop} {B : Nat → Int} {L k : Nat} (hx : TxM σ B L) (hB : BOk B L) (hk : k ≤ 1000) (h : K (.inl (Int32.ofInt (btA B L k))) σ) : CALL (r + 1) n_m_byteAt [.inr (.inr (46, 0)), .inl (Int32.ofInt (k : Int))] σ K := by
  refine r_m_byteAt hC (fun J hJ => ?_)
  refine hJ _ _ _ _ ?_
  conv => whnf
  have hL := hB.1
  rw [hx.1]
  refine ⟨fun c => ?_, fun c => ?_⟩ <;> (try simp (disch := omega) only [oi_le, oi_lt, oi_eq, oi_lt0, oi_le0, oi_0lt, oi_0le, oi_eq0, oi_eq1, bI_eq0, bI_ne0, bI_eq1, decide_eq_true_eq, decide_eq_false_iff_not, lc_lt, lc_gt, lc_eq, lc_ge, lc_le, ol_lt, ol_eq, ne_eq, Int.not_lt, Int.not_le, Bool.not_eq_true, Bool.not_eq_false, Decidable.not_not, not_true_eq_false, not_false_eq_true, Bool.true_eq_false, Bool.false_eq_true] at c) <;> (first | (exfalso; omega) | ((with_reducible refine hJ _ _ _ _ ?_); conv => whnf) | (conv => whnf))
  · refine hJ _ _ _ _ ?_
    conv => whnf
    rw [show btA B L k = -1 from if_neg (by omega)] at h
    exact h
  · have bb := hB.2 k (by omega)
    refine ⟨(oi_in (by omega) (by omega)).mpr ⟨by omega, by omega⟩, ?_⟩
    conv => whnf
    refine hJ _ _ _ _ ?_
    conv => whnf
    rw [oi_nat (by omega) (by omega), Int.toNat_natCast, hx.2 k (by omega), sg_and _ (by omega), show (((B k).toNat : Nat) : Int) = B k by omega]
    rw [show btA B L k = B k from if_pos (by omega)] at h
    exact h
theorem s_m_isSmall {CALL : CT} (hC : RuleAll CALL) {r : Nat} {σ : AM} {K : AV → AM → Prop} {c : Int} (c1 : -1 ≤ c) (c2 : c ≤ 255) (h : K (.inl (bI (sml c))) σ) : CALL (r + 1) n_m_isSmall [.inl (Int32.ofInt c)] σ K := by
  refine r_m_isSmall hC (fun J hJ => ?_)
  refine hJ _ _ _ _ ?_
  conv => whnf
  unfold sml at h
  refine ⟨fun z => ?_, fun z => ?_⟩ <;> (try simp (disch := omega) only [oi_le, oi_lt, oi_eq, oi_lt0, oi_le0, oi_0lt, oi_0le, oi_eq0, oi_eq1, bI_eq0, bI_ne0, bI_eq1, decide_eq_true_eq, decide_eq_false_iff_not, lc_lt, lc_gt, lc_eq, lc_ge, lc_le, ol_lt, ol_eq, ne_eq, Int.not_lt, Int.not_le, Bool.not_eq_true, Bool.not_eq_false, Decidable.not_not, not_true_eq_false, not_false_eq_true, Bool.true_eq_false, Bool.false_eq_true] at z) <;> (first | (exfalso; omega) | ((with_reducible refine hJ _ _ _ _ ?_); conv => whnf) | (conv => whnf))
  · refine hJ _ _ _ _ ?_
    conv => whnf
    rw [decide_eq_false (by omega)] at h
    exact ⟨Or.inl rfl, h⟩
  · refine ⟨fun z2 => ?_, fun z2 => ?_⟩ <;> (try simp (disch := omega) only [oi_le, oi_lt, oi_eq, oi_lt0, oi_le0, oi_0lt, oi_0le, oi_eq0, oi_eq1, bI_eq0, bI_ne0, bI_eq1, decide_eq_true_eq, decide_eq_false_iff_not, lc_lt, lc_gt, lc_eq, lc_ge, lc_le, ol_lt, ol_eq, ne_eq, Int.not_lt, Int.not_le, Bool.not_eq_true, Bool.not_eq_false, Decidable.not_not, not_true_eq_false, not_false_eq_true, Bool.true_eq_false, Bool.false_eq_true] at z2) <;> (first | (exfalso; omega) | ((with_reducible refine hJ _ _ _ _ ?_); conv => whnf) | (conv => whnf))
    · refine hJ _ _ _ _ ?_
      conv => whnf
      rw [decide_eq_false (by omega)] at h
      exact ⟨Or.inl rfl, h⟩
    · refine hJ _ _ _ _ ?_
      conv => whnf
      rw [decide_eq_true (by omega)] at h
      exact ⟨Or.inr rfl, h⟩
theorem s_m_isDigit {CALL : CT} (hC : RuleAll CALL) {r : Nat} {σ : AM} {K : AV → AM → Prop} {c : Int} (c1 : -1 ≤ c) (c2 : c ≤ 255) (h : K (.inl (bI (dig c))) σ) : CALL (r + 1) n_m_isDigit [.inl (Int32.ofInt c)] σ K := by
  refine r_m_isDigit hC (fun J hJ => ?_)
  refine hJ _ _ _ _ ?_
  conv => whnf
  unfold dig at h
  refine ⟨fun z => ?_, fun z => ?_⟩ <;> (try simp (disch := omega) only [oi_le, oi_lt, oi_eq, oi_lt0, oi_le0, oi_0lt, oi_0le, oi_eq0, oi_eq1, bI_eq0, bI_ne0, bI_eq1, decide_eq_true_eq, decide_eq_false_iff_not, lc_lt, lc_gt, lc_eq, lc_ge, lc_le, ol_lt, ol_eq, ne_eq, Int.not_lt, Int.not_le, Bool.not_eq_true, Bool.not_eq_false, Decidable.not_not, not_true_eq_false, not_false_eq_true, Bool.true_eq_false, Bool.false_eq_true] at z) <;> (first | (exfalso; omega) | ((with_reducible refine hJ _ _ _ _ ?_); conv => whnf) | (conv => whnf))
  · refine hJ _ _ _ _ ?_
    conv => whnf
    rw [decide_eq_false (by omega)] at h
    exact ⟨Or.inl rfl, h⟩
  · refine ⟨fun z2 => ?_, fun z2 => ?_⟩ <;> (try simp (disch := omega) only [oi_le, oi_lt, oi_eq, oi_lt0, oi_le0, oi_0lt, oi_0le, oi_eq0, oi_eq1, bI_eq0, bI_ne0, bI_eq1, decide_eq_true_eq, decide_eq_false_iff_not, lc_lt, lc_gt, lc_eq, lc_ge, lc_le, ol_lt, ol_eq, ne_eq, Int.not_lt, Int.not_le, Bool.not_eq_true, Bool.not_eq_false, Decidable.not_not, not_true_eq_false, not_false_eq_true, Bool.true_eq_false, Bool.false_eq_true] at z2) <;> (first | (exfalso; omega) | ((with_reducible refine hJ _ _ _ _ ?_); conv => whnf) | (conv => whnf))
    · refine hJ _ _ _ _ ?_
      conv => whnf
      rw [decide_eq_false (by omega)] at h
      exact ⟨Or.inl rfl, h⟩
    · refine hJ _ _ _ _ ?_
      conv => whnf
      rw [decide_eq_true (by omega)] at h
      exact ⟨Or.inr rfl, h⟩
def vmF (B : Nat → Int) (f : Nat) : Nat → Int
  | 0 => 0
  | i + 1 => min 100000 (10 * vmF B f i + B (f + i) - 48)
theorem vmF_bd {B : Nat → Int} {f : Nat} : ∀ i, (∀ j, j < i → 48 ≤ B (f + j) ∧ B (f + j) ≤ 57) → 0 ≤ vmF B f i ∧ vmF B f i ≤ 100000
  | 0, _ => ⟨Int.le_refl _, by show (0 : Int) ≤ 100000; omega⟩
  | i + 1, h => by
    have := vmF_bd i (fun j hj => h j (by omega))
    have := h i (by omega)
    rw [vmF]
    omega
theorem vmF_nu {B : Nat → Int} {f : Nat} (n : Nat) (hn : n ≤ 4) (h : ∀ j, j < n → 48 ≤ B (f + j) ∧ B (f + j) ≤ 57) : vmF B f n = nuF B f n ∧ 0 ≤ nuF B f n ∧ nuF B f n < 10 ^ n := by
  induction n with
  | zero => exact ⟨rfl, Int.le_refl _, by show (0 : Int) < 1; omega⟩
  | succ n ih =>
    obtain ⟨h1, h2, h3⟩ := ih (by omega) (fun j hj => h j (by omega))
    have h4 := h n (by omega)
    have h5 : (10 : Int) ^ n ≤ 1000 := by
      have : n = 0 ∨ n = 1 ∨ n = 2 ∨ n = 3 := by omega
      rcases this with rfl | rfl | rfl | rfl <;> decide
    rw [vmF, nuF, h1, Int.pow_succ]
    omega
theorem s_m_ahead {CALL : CT} (hC : RuleAll CALL) {r : Nat} {σ : AM} {K : AV → AM → Prop} {B : Nat → Int} {L e0 : Nat} (hx : TxM σ B L) (hB : BOk B L) (he : e0 ≤ L) (h14 : σ.1 46 0 14 = Int32.ofInt (e0 : Int)) (h : ∀ σ' : AM, TM σ' B L (tokF B L e0) → Ch tmS σ σ' → K unset σ') : CALL (r + 2) n_m_ahead [.inr (.inr (46, 0))] σ K := by
  refine r_m_ahead hC (fun J hJ => ?_)
  have hL := hB.1
  have fo := tokF_ok (B := B) he
  have ret : ∀ (σ2 : AM) (x1 : AV), TM σ2 B L (tokF B L e0) → Ch tmS σ σ2 → J 251 [.inr (.inr (46, 0)), x1] [] σ2 := by
    intro σ2 x1 t2 c2
    refine hJ _ _ _ _ ?_
    conv => whnf
    exact h σ2 t2 c2
  have w12 : ∀ (σe : AM) (x : Int32), Ch tmS σ σe → Ch tmS σ (wI σe 46 0 12 x) := fun σe x hc => hc.tr (Ch.wI ⟨rfl, rfl, by omega, by omega⟩)
  have w14 : ∀ (σe : AM) (x : Int32), Ch tmS σ σe → Ch tmS σ (wI σe 46 0 14 x) := fun σe x hc => hc.tr (Ch.wI ⟨rfl, rfl, by omega, by omega⟩)
  have w15 : ∀ (σe : AM) (x : Int32), Ch tmS σ σe → Ch tmS σ (wI σe 46 0 15 x) := fun σe x hc => hc.tr (Ch.wI ⟨rfl, rfl, by omega, by omega⟩)
  have at39 : ∀ (f : Nat) (σe : AM) (x1 : AV), f = tokF B L e0 → Ch tmS σ σe → σe.1 46 0 14 = Int32.ofInt (f : Int) → J 39 [.inr (.inr (46, 0)), x1] [] σe := by
    intro f σe x1 hf hc e14
    have fl : f ≤ L := by rw [hf]; exact fo.2.1
    rw [← hf] at ret
    have eo := tokE_ok (B := B) fl
    have bd := btA_bd (k := f) hB
    have c1 : Ch tmS σ (wI σe 46 0 13 (Int32.ofInt (f : Int))) := hc.tr (Ch.wI ⟨rfl, rfl, by omega, by omega⟩)
    refine hJ _ _ _ _ ?_
    conv => whnf
    rw [e14, wI1, if_neg (by omega), e14]
    refine s_m_byteAt hC (hx.t c1) hB (by omega) ?_
    conv => whnf
    have c2 := w15 _ (Int32.ofInt (btA B L f)) c1
    have hx2 := hx.t c2
    have s14 : (wI (wI σe 46 0 13 (Int32.ofInt (f : Int))) 46 0 15 (Int32.ofInt (btA B L f))).1 46 0 14 = Int32.ofInt (f : Int) := by rw [wI1, if_neg (by omega), wI1, if_neg (by omega), e14]
    have s13 : (wI (wI σe 46 0 13 (Int32.ofInt (f : Int))) 46 0 15 (Int32.ofInt (btA B L f))).1 46 0 13 = Int32.ofInt (f : Int) := by rw [wI1, if_neg (by omega), wI_16]
    have s15 : (wI (wI σe 46 0 13 (Int32.ofInt (f : Int))) 46 0 15 (Int32.ofInt (btA B L f))).1 46 0 15 = Int32.ofInt (btA B L f) := wI_16
    generalize wI (wI σe 46 0 13 (Int32.ofInt (f : Int))) 46 0 15 (Int32.ofInt (btA B L f)) = τ at c2 hx2 s14 s13 s15 ⊢
    refine ⟨fun c => ?_, fun c => ?_⟩ <;> (try simp (disch := omega) only [oi_le, oi_lt, oi_eq, oi_lt0, oi_le0, oi_0lt, oi_0le, oi_eq0, oi_eq1, bI_eq0, bI_ne0, bI_eq1, decide_eq_true_eq, decide_eq_false_iff_not, lc_lt, lc_gt, lc_eq, lc_ge, lc_le, ol_lt, ol_eq, ne_eq, Int.not_lt, Int.not_le, Bool.not_eq_true, Bool.not_eq_false, Decidable.not_not, not_true_eq_false, not_false_eq_true, Bool.true_eq_false, Bool.false_eq_true] at c) <;> (first | (exfalso; omega) | ((fail_if_success with_reducible refine hJ _ _ _ _ ?_); conv => whnf) | skip)
    · have hfl : f < L := by omega
      have eb : btA B L f = B f := btA_lt hfl
      rw [eb] at bd s15 ⊢
      refine hJ _ _ _ _ ?_
      conv => whnf
      refine s_m_isSmall hC (by omega) (by omega) ?_
      conv => whnf
      refine ⟨fun c3 => ?_, fun c3 => ?_⟩ <;> (try simp (disch := omega) only [oi_le, oi_lt, oi_eq, oi_lt0, oi_le0, oi_0lt, oi_0le, oi_eq0, oi_eq1, bI_eq0, bI_ne0, bI_eq1, decide_eq_true_eq, decide_eq_false_iff_not, lc_lt, lc_gt, lc_eq, lc_ge, lc_le, ol_lt, ol_eq, ne_eq, Int.not_lt, Int.not_le, Bool.not_eq_true, Bool.not_eq_false, Decidable.not_not, not_true_eq_false, not_false_eq_true, Bool.true_eq_false, Bool.false_eq_true] at c3) <;> (first | (exfalso; omega) | ((fail_if_success with_reducible refine hJ _ _ _ _ ?_); conv => whnf) | skip)
      · -- no word
        refine hJ _ _ _ _ ?_
        conv => whnf
        refine s_m_isDigit hC (by omega) (by omega) ?_
        conv => whnf
        refine ⟨fun c4 => ?_, fun c4 => ?_⟩ <;> (try simp (disch := omega) only [oi_le, oi_lt, oi_eq, oi_lt0, oi_le0, oi_0lt, oi_0le, oi_eq0, oi_eq1, bI_eq0, bI_ne0, bI_eq1, decide_eq_true_eq, decide_eq_false_iff_not, lc_lt, lc_gt, lc_eq, lc_ge, lc_le, ol_lt, ol_eq, ne_eq, Int.not_lt, Int.not_le, Bool.not_eq_true, Bool.not_eq_false, Decidable.not_not, not_true_eq_false, not_false_eq_true, Bool.true_eq_false, Bool.false_eq_true] at c4) <;> (first | (exfalso; omega) | ((fail_if_success with_reducible refine hJ _ _ _ _ ?_); conv => whnf) | skip)
        · -- a sign, or nothing
          have kd : kdT B L f = if B f = 59 ∨ B f = 60 ∨ B f = 61 ∨ B f = 62 then 4 else 1 := by unfold kdT; rw [if_neg (by omega), if_neg (by rw [c3]; decide), if_neg (by rw [c4]; decide)]
          have te : tokE B L f = f + 1 := by unfold tokE; rw [if_neg (by omega), if_neg (by rw [c3]; decide), if_neg (by rw [c4]; decide)]
          refine hJ _ _ _ _ ?_
          conv => whnf
          rw [s14, oi_succ]
          have fin : ∀ v : Int, v = kdT B L f → J 248 [.inr (.inr (46, 0)), .inl (Int32.ofInt (B f))] [.inl (Int32.ofInt v), .inr (.inr (46, 0))] (wI τ 46 0 14 (Int32.ofInt ((f + 1 : Nat) : Int))) := by
            intro v hv
            refine hJ _ _ _ _ ?_
            conv => whnf
            refine ret _ _ ⟨fl, by rw [wI_16, hv], by rw [wI1, if_neg (by omega), wI1, if_neg (by omega), s13], fun z => ?_, by rw [wI1, if_neg (by omega), wI_16, te]⟩ (w12 _ _ (w14 _ _ c2))
            rw [wI1, if_neg (by omega), wI1, if_neg (by omega), s15]
            congr 1
            unfold vlT
            rw [if_neg]
            rw [kd]
            split <;> omega
          have yes : (B f = 59 ∨ B f = 60 ∨ B f = 61 ∨ B f = 62) → J 243 [.inr (.inr (46, 0)), .inl (Int32.ofInt (B f))] [.inr (.inr (46, 0))] (wI τ 46 0 14 (Int32.ofInt ((f + 1 : Nat) : Int))) := by
            intro z
            refine hJ _ _ _ _ ?_
            conv => whnf
            exact fin 4 (by rw [kd, if_pos z])
          refine ⟨fun d1 => ?_, fun d1 => ?_⟩ <;> (try simp (disch := omega) only [oi_le, oi_lt, oi_eq, oi_lt0, oi_le0, oi_0lt, oi_0le, oi_eq0, oi_eq1, bI_eq0, bI_ne0, bI_eq1, decide_eq_true_eq, decide_eq_false_iff_not, lc_lt, lc_gt, lc_eq, lc_ge, lc_le, ol_lt, ol_eq, ne_eq, Int.not_lt, Int.not_le, Bool.not_eq_true, Bool.not_eq_false, Decidable.not_not, not_true_eq_false, not_false_eq_true, Bool.true_eq_false, Bool.false_eq_true] at d1) <;> (first | (exfalso; omega) | ((fail_if_success with_reducible refine hJ _ _ _ _ ?_); conv => whnf) | skip)
          · exact yes (by omega)
          · refine ⟨fun d2 => ?_, fun d2 => ?_⟩ <;> (try simp (disch := omega) only [oi_le, oi_lt, oi_eq, oi_lt0, oi_le0, oi_0lt, oi_0le, oi_eq0, oi_eq1, bI_eq0, bI_ne0, bI_eq1, decide_eq_true_eq, decide_eq_false_iff_not, lc_lt, lc_gt, lc_eq, lc_ge, lc_le, ol_lt, ol_eq, ne_eq, Int.not_lt, Int.not_le, Bool.not_eq_true, Bool.not_eq_false, Decidable.not_not, not_true_eq_false, not_false_eq_true, Bool.true_eq_false, Bool.false_eq_true] at d2) <;> (first | (exfalso; omega) | ((fail_if_success with_reducible refine hJ _ _ _ _ ?_); conv => whnf) | skip)
            · exact yes (by omega)
            · refine ⟨fun d3 => ?_, fun d3 => ?_⟩ <;> (try simp (disch := omega) only [oi_le, oi_lt, oi_eq, oi_lt0, oi_le0, oi_0lt, oi_0le, oi_eq0, oi_eq1, bI_eq0, bI_ne0, bI_eq1, decide_eq_true_eq, decide_eq_false_iff_not, lc_lt, lc_gt, lc_eq, lc_ge, lc_le, ol_lt, ol_eq, ne_eq, Int.not_lt, Int.not_le, Bool.not_eq_true, Bool.not_eq_false, Decidable.not_not, not_true_eq_false, not_false_eq_true, Bool.true_eq_false, Bool.false_eq_true] at d3) <;> (first | (exfalso; omega) | ((fail_if_success with_reducible refine hJ _ _ _ _ ?_); conv => whnf) | skip)
              · exact yes (by omega)
              · refine ⟨fun d4 => ?_, fun d4 => ?_⟩ <;> (try simp (disch := omega) only [oi_le, oi_lt, oi_eq, oi_lt0, oi_le0, oi_0lt, oi_0le, oi_eq0, oi_eq1, bI_eq0, bI_ne0, bI_eq1, decide_eq_true_eq, decide_eq_false_iff_not, lc_lt, lc_gt, lc_eq, lc_ge, lc_le, ol_lt, ol_eq, ne_eq, Int.not_lt, Int.not_le, Bool.not_eq_true, Bool.not_eq_false, Decidable.not_not, not_true_eq_false, not_false_eq_true, Bool.true_eq_false, Bool.false_eq_true] at d4) <;> (first | (exfalso; omega) | ((fail_if_success with_reducible refine hJ _ _ _ _ ?_); conv => whnf) | skip)
                · refine hJ _ _ _ _ ?_
                  conv => whnf
                  exact fin 1 (by rw [kd, if_neg (by omega)])
                · exact yes (by omega)
        · -- a number
          have te : tokE B L f = rn' dig B L L f := by unfold tokE; rw [if_neg (by omega), if_neg (by rw [c3]; decide), if_pos c4]
          have kd : kdT B L f = if 4 < tokE B L f - f then 1 else 3 := by unfold kdT; rw [if_neg (by omega), if_neg (by rw [c3]; decide), if_pos c4]
          have ro := rn_ok (p := dig) (B := B) (L := L) (k := L) (e := f) (by omega)
          rw [← te] at ro
          have dg : ∀ j, j < tokE B L f - f → 48 ≤ B (f + j) ∧ B (f + j) ≤ 57 := fun j hj => by
            have := ro.2.2.1 (f + j) (by omega) (by omega)
            unfold dig at this
            rw [decide_eq_true_eq] at this
            exact this
          have at183 : ∀ σd : AM, Ch tmS σ σd → σd.1 46 0 13 = Int32.ofInt (f : Int) → σd.1 46 0 14 = Int32.ofInt ((tokE B L f : Nat) : Int) → σd.1 46 0 15 = Int32.ofInt (vmF B f (tokE B L f - f)) → J 183 [.inr (.inr (46, 0)), .inl (Int32.ofInt (B f))] [] σd := by
            intro σd cd d13 d14 d15
            have fin : ∀ v : Int, v = kdT B L f → J 202 [.inr (.inr (46, 0)), .inl (Int32.ofInt (B f))] [.inl (Int32.ofInt v), .inr (.inr (46, 0))] σd := by
              intro v hv
              refine hJ _ _ _ _ ?_
              conv => whnf
              refine ret _ _ ⟨fl, by rw [wI_16, hv], by rw [wI1, if_neg (by omega), d13], fun z => ?_, by rw [wI1, if_neg (by omega), d14]⟩ (w12 _ _ cd)
              have k3 : kdT B L f = 3 := by
                rw [kd] at z ⊢
                split at z
                · omega
                · rename_i q; rw [if_neg q]
              have n4 : tokE B L f - f ≤ 4 := by
                rw [kd] at k3
                split at k3 <;> omega
              rw [wI1, if_neg (by omega), d15, show vlT B L f = nuF B f (tokE B L f - f) from if_pos k3, (vmF_nu _ n4 dg).1]
            refine hJ _ _ _ _ ?_
            conv => whnf
            rw [d14, d13, oi_sub]
            refine ⟨fun d1 => ?_, fun d1 => ?_⟩ <;> (try simp (disch := omega) only [oi_le, oi_lt, oi_eq, oi_lt0, oi_le0, oi_0lt, oi_0le, oi_eq0, oi_eq1, bI_eq0, bI_ne0, bI_eq1, decide_eq_true_eq, decide_eq_false_iff_not, lc_lt, lc_gt, lc_eq, lc_ge, lc_le, ol_lt, ol_eq, ne_eq, Int.not_lt, Int.not_le, Bool.not_eq_true, Bool.not_eq_false, Decidable.not_not, not_true_eq_false, not_false_eq_true, Bool.true_eq_false, Bool.false_eq_true] at d1) <;> (first | (exfalso; omega) | ((with_reducible refine hJ _ _ _ _ ?_); conv => whnf) | (conv => whnf))
            · exact fin 3 (by rw [kd, if_neg (by omega)])
            · exact fin 1 (by rw [kd, if_pos (by omega)])
          have loop : ∀ (d e : Nat) (σd : AM), L ≤ e + d → f ≤ e → e ≤ L → rn' dig B L d e = tokE B L f → Ch tmS σ σd → σd.1 46 0 13 = Int32.ofInt (f : Int) → σd.1 46 0 14 = Int32.ofInt (e : Int) → σd.1 46 0 15 = Int32.ofInt (vmF B f (e - f)) → J 128 [.inr (.inr (46, 0)), .inl (Int32.ofInt (B f))] [] σd := by
            intro d
            induction d with
            | zero =>
              intro e σd h1 h2 h3 h4 cd d13 d14 d15
              rw [rn'] at h4
              refine hJ _ _ _ _ ?_
              conv => whnf
              rw [d14]
              refine s_m_byteAt hC (hx.t cd) hB (by omega) ?_
              conv => whnf
              rw [show btA B L e = -1 from if_neg (by omega)]
              refine s_m_isDigit hC (by omega) (by omega) ?_
              conv => whnf
              refine ⟨fun _ => ?_, fun z => absurd rfl z⟩
              exact at183 σd cd d13 (by rw [d14, h4]) (by rw [d15, h4])
            | succ d ih =>
              intro e σd h1 h2 h3 h4 cd d13 d14 d15
              rw [rn'] at h4
              have be := btA_bd (k := e) hB
              refine hJ _ _ _ _ ?_
              conv => whnf
              rw [d14]
              refine s_m_byteAt hC (hx.t cd) hB (by omega) ?_
              conv => whnf
              refine s_m_isDigit hC (by omega) (by omega) ?_
              conv => whnf
              by_cases ce : e < L ∧ dig (B e) = true
              · rw [if_pos ce] at h4
                have eo2 := (rn_ok (p := dig) (B := B) (L := L) (k := d) (e := e + 1) (by omega)).1
                rw [h4] at eo2
                have vb := vmF_bd (B := B) (f := f) (e - f) (fun j hj => dg j (by omega))
                have be2 := dg (e - f) (by omega)
                rw [show f + (e - f) = e by omega] at be2
                rw [btA_lt ce.1, ce.2]
                refine ⟨fun z => absurd z (by decide), fun _ => ?_⟩
                conv => whnf
                rw [d15, oi_mul, d14]
                refine s_m_byteAt hC (hx.t cd) hB (by omega) ?_
                conv => whnf
                rw [btA_lt ce.1, oi_add, oi_sub]
                refine s_minI hC (by omega) (by omega) (by omega) (by omega) ?_
                conv => whnf
                rw [wI1, if_neg (by omega), d14, oi_succ]
                refine ih (e + 1) _ (by omega) (by omega) (by omega) h4 (w14 _ _ (w15 _ _ cd)) (by rw [wI1, if_neg (by omega), wI1, if_neg (by omega), d13]) wI_16 ?_
                rw [wI1, if_neg (by omega), wI_16, show e + 1 - f = (e - f) + 1 by omega, vmF, show f + (e - f) = e by omega]
                rfl
              · rw [if_neg ce] at h4
                have nd : dig (btA B L e) = false := by
                  cases q : dig (btA B L e) with
                  | false => rfl
                  | true =>
                    exfalso
                    by_cases el : e < L
                    · rw [btA_lt el] at q; exact ce ⟨el, q⟩
                    · rw [show btA B L e = -1 from if_neg el] at q; exact absurd q (by decide)
                rw [nd]
                refine ⟨fun _ => ?_, fun z => absurd rfl z⟩
                exact at183 σd cd d13 (by rw [d14, h4]) (by rw [d15, h4])
          refine loop L f _ (by omega) (by omega) (by omega) te.symm (w15 _ _ c2) (by rw [wI1, if_neg (by omega), s13]) (by rw [wI1, if_neg (by omega), s14]) ?_
          rw [wI_16, Nat.sub_self]
          rfl
      · -- a word
        have te : tokE B L f = rn' sml B L L f := by unfold tokE; rw [if_neg (by omega), if_pos c3]
        have kd : kdT B L f = 2 := by unfold kdT; rw [if_neg (by omega), if_pos c3]
        have loop : ∀ (d e : Nat) (σd : AM), L ≤ e + d → f ≤ e → e ≤ L → rn' sml B L d e = tokE B L f → Ch tmS σ σd → σd.1 46 0 13 = Int32.ofInt (f : Int) → σd.1 46 0 14 = Int32.ofInt (e : Int) → J 81 [.inr (.inr (46, 0)), .inl (Int32.ofInt (B f))] [] σd := by
          have at108 : ∀ σd : AM, Ch tmS σ σd → σd.1 46 0 13 = Int32.ofInt (f : Int) → σd.1 46 0 14 = Int32.ofInt ((tokE B L f : Nat) : Int) → J 108 [.inr (.inr (46, 0)), .inl (Int32.ofInt (B f))] [] σd := by
            intro σd cd d13 d14
            refine hJ _ _ _ _ ?_
            conv => whnf
            exact ret _ _ ⟨fl, by rw [wI_16, kd], by rw [wI1, if_neg (by omega), d13], fun z => by omega, by rw [wI1, if_neg (by omega), d14]⟩ (w12 _ _ cd)
          intro d
          induction d with
          | zero =>
            intro e σd h1 h2 h3 h4 cd d13 d14
            rw [rn'] at h4
            refine hJ _ _ _ _ ?_
            conv => whnf
            rw [d14]
            refine s_m_byteAt hC (hx.t cd) hB (by omega) ?_
            conv => whnf
            rw [show btA B L e = -1 from if_neg (by omega)]
            refine s_m_isSmall hC (by omega) (by omega) ?_
            conv => whnf
            refine ⟨fun _ => ?_, fun z => absurd rfl z⟩
            exact at108 σd cd d13 (by rw [d14, h4])
          | succ d ih =>
            intro e σd h1 h2 h3 h4 cd d13 d14
            rw [rn'] at h4
            have be := btA_bd (k := e) hB
            refine hJ _ _ _ _ ?_
            conv => whnf
            rw [d14]
            refine s_m_byteAt hC (hx.t cd) hB (by omega) ?_
            conv => whnf
            refine s_m_isSmall hC (by omega) (by omega) ?_
            conv => whnf
            by_cases ce : e < L ∧ sml (B e) = true
            · rw [if_pos ce] at h4
              rw [btA_lt ce.1, ce.2]
              refine ⟨fun z => absurd z (by decide), fun _ => ?_⟩
              conv => whnf
              rw [d14, oi_succ]
              exact ih (e + 1) _ (by omega) (by omega) (by omega) h4 (w14 _ _ cd) (by rw [wI1, if_neg (by omega), d13]) wI_16
            · rw [if_neg ce] at h4
              have nd : sml (btA B L e) = false := by
                cases q : sml (btA B L e) with
                | false => rfl
                | true =>
                  exfalso
                  by_cases el : e < L
                  · rw [btA_lt el] at q; exact ce ⟨el, q⟩
                  · rw [show btA B L e = -1 from if_neg el] at q; exact absurd q (by decide)
              rw [nd]
              refine ⟨fun _ => ?_, fun z => absurd rfl z⟩
              exact at108 σd cd d13 (by rw [d14, h4])
        exact loop L f τ (by omega) (by omega) (by omega) te.symm c2 s13 s14
    · have kd : kdT B L f = 0 := (kdT_bd B L f).2.2.mpr (by omega)
      have te : tokE B L f = f := if_pos (by omega)
      exact ret _ _ ⟨fl, by rw [wI_16, kd], by rw [wI1, if_neg (by omega), s13], fun z => by omega, by rw [wI1, if_neg (by omega), s14, te]⟩ (w12 _ _ c2)
  have loop : ∀ (d e : Nat) (σe : AM) (x1 : AV), L ≤ e + d → e ≤ L → rn' blk' B L d e = tokF B L e0 → Ch tmS σ σe → σe.1 46 0 14 = Int32.ofInt (e : Int) → J 0 [.inr (.inr (46, 0)), x1] [] σe := by
    intro d
    induction d with
    | zero =>
      intro e σe x1 h1 h2 h3 hc e14
      rw [rn'] at h3
      refine hJ _ _ _ _ ?_
      conv => whnf
      rw [e14]
      refine s_m_byteAt hC (hx.t hc) hB (by omega) ?_
      conv => whnf
      rw [show btA B L e = -1 from if_neg (by omega)]
      refine ⟨fun z => absurd z (by decide), fun _ => ?_⟩
      conv => whnf
      rw [e14]
      refine s_m_byteAt hC (hx.t hc) hB (by omega) ?_
      conv => whnf
      rw [show btA B L e = -1 from if_neg (by omega)]
      refine ⟨fun _ => ?_, fun z => absurd z (by decide)⟩
      exact at39 e σe _ h3 hc e14
    | succ d ih =>
      intro e σe x1 h1 h2 h3 hc e14
      rw [rn'] at h3
      have be := btA_bd (k := e) hB
      by_cases ce : e < L ∧ blk' (B e) = true
      · rw [if_pos ce] at h3
        have cs := ce.2
        unfold blk' at cs
        rw [decide_eq_true_eq] at cs
        have at26 : J 26 [.inr (.inr (46, 0)), x1] [] σe := by
          refine hJ _ _ _ _ ?_
          conv => whnf
          rw [e14, oi_succ]
          exact ih (e + 1) _ _ (by omega) (by omega) h3 (w14 _ _ hc) wI_16
        have eb : btA B L e = B e := btA_lt ce.1
        refine hJ _ _ _ _ ?_
        conv => whnf
        rw [e14]
        refine s_m_byteAt hC (hx.t hc) hB (by omega) ?_
        conv => whnf
        refine ⟨fun c1 => ?_, fun c1 => ?_⟩ <;> (try simp (disch := omega) only [oi_le, oi_lt, oi_eq, oi_lt0, oi_le0, oi_0lt, oi_0le, oi_eq0, oi_eq1, bI_eq0, bI_ne0, bI_eq1, decide_eq_true_eq, decide_eq_false_iff_not, lc_lt, lc_gt, lc_eq, lc_ge, lc_le, ol_lt, ol_eq, ne_eq, Int.not_lt, Int.not_le, Bool.not_eq_true, Bool.not_eq_false, Decidable.not_not, not_true_eq_false, not_false_eq_true, Bool.true_eq_false, Bool.false_eq_true] at c1) <;> (first | (exfalso; omega) | ((fail_if_success with_reducible refine hJ _ _ _ _ ?_); conv => whnf) | skip)
        · exact at26
        · rw [e14]
          refine s_m_byteAt hC (hx.t hc) hB (by omega) ?_
          conv => whnf
          refine ⟨fun c2 => ?_, fun c2 => ?_⟩ <;> (try simp (disch := omega) only [oi_le, oi_lt, oi_eq, oi_lt0, oi_le0, oi_0lt, oi_0le, oi_eq0, oi_eq1, bI_eq0, bI_ne0, bI_eq1, decide_eq_true_eq, decide_eq_false_iff_not, lc_lt, lc_gt, lc_eq, lc_ge, lc_le, ol_lt, ol_eq, ne_eq, Int.not_lt, Int.not_le, Bool.not_eq_true, Bool.not_eq_false, Decidable.not_not, not_true_eq_false, not_false_eq_true, Bool.true_eq_false, Bool.false_eq_true] at c2) <;> (first | (exfalso; omega) | ((fail_if_success with_reducible refine hJ _ _ _ _ ?_); conv => whnf) | skip)
          exact at26
      · rw [if_neg ce] at h3
        have nb : ¬ (btA B L e = 10 ∨ btA B L e = 32) := by
          intro q
          by_cases el : e < L
          · rw [btA_lt el] at q; exact ce ⟨el, decide_eq_true q⟩
          · rw [show btA B L e = -1 from if_neg el] at q; omega
        refine hJ _ _ _ _ ?_
        conv => whnf
        rw [e14]
        refine s_m_byteAt hC (hx.t hc) hB (by omega) ?_
        conv => whnf
        refine ⟨fun c1 => ?_, fun c1 => ?_⟩ <;> (try simp (disch := omega) only [oi_le, oi_lt, oi_eq, oi_lt0, oi_le0, oi_0lt, oi_0le, oi_eq0, oi_eq1, bI_eq0, bI_ne0, bI_eq1, decide_eq_true_eq, decide_eq_false_iff_not, lc_lt, lc_gt, lc_eq, lc_ge, lc_le, ol_lt, ol_eq, ne_eq, Int.not_lt, Int.not_le, Bool.not_eq_true, Bool.not_eq_false, Decidable.not_not, not_true_eq_false, not_false_eq_true, Bool.true_eq_false, Bool.false_eq_true] at c1) <;> (first | (exfalso; omega) | ((fail_if_success with_reducible refine hJ _ _ _ _ ?_); conv => whnf) | skip)
        rw [e14]
        refine s_m_byteAt hC (hx.t hc) hB (by omega) ?_
        conv => whnf
        refine ⟨fun c2 => ?_, fun c2 => ?_⟩ <;> (try simp (disch := omega) only [oi_le, oi_lt, oi_eq, oi_lt0, oi_le0, oi_0lt, oi_0le, oi_eq0, oi_eq1, bI_eq0, bI_ne0, bI_eq1, decide_eq_true_eq, decide_eq_false_iff_not, lc_lt, lc_gt, lc_eq, lc_ge, lc_le, ol_lt, ol_eq, ne_eq, Int.not_lt, Int.not_le, Bool.not_eq_true, Bool.not_eq_false, Decidable.not_not, not_true_eq_false, not_false_eq_true, Bool.true_eq_false, Bool.false_eq_true] at c2) <;> (first | (exfalso; omega) | ((fail_if_success with_reducible refine hJ _ _ _ _ ?_); conv => whnf) | skip)
        exact at39 e σe _ h3 hc e14
  exact loop L e0 σ _ (by omega) he rfl Ch.rf h14
