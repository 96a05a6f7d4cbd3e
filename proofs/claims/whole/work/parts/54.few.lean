theorem firstG_ge {β : Type} {f : Nat → Option β} : ∀ {k i : Nat} {b : β}, firstG f k i = some b → ∃ m, i ≤ m ∧ m < i + k ∧ f m = some b ∧ ∀ j, i ≤ j → j < m → f j = none
  | 0, i, b, h => by cases h
  | k + 1, i, b, h => by
    rw [firstG] at h
    cases hf : f i with
    | some c => rw [hf] at h; cases h; exact ⟨i, by omega, by omega, hf, fun j h1 h2 => by omega⟩
    | none =>
      rw [hf] at h
      obtain ⟨m, h1, h2, h3, h4⟩ := firstG_ge h
      refine ⟨m, by omega, by omega, h3, fun j a b => ?_⟩
      by_cases e : j = i
      · subst e; exact hf
      · exact h4 j (by omega) b
theorem firstG_no {β : Type} {f : Nat → Option β} : ∀ {k i : Nat}, firstG f k i = none → ∀ j, i ≤ j → j < i + k → f j = none
  | 0, i, _, j, h1, h2 => by omega
  | k + 1, i, h, j, h1, h2 => by
    rw [firstG] at h
    cases hf : f i with
    | some c => rw [hf] at h; cases h
    | none =>
      rw [hf] at h
      by_cases e : j = i
      · subst e; exact hf
      · exact firstG_no h j (by omega) (by omega)
def fewC (E : Nat → Bool) (c : Nat) : Option Nat := firstG (fun m => firstF (fun a => decide (cnt a = m) && E a) (2 ^ c) 0) (c + 1) 0
def fewM (E : Nat → Bool) : Nat → Option Nat
  | 0 => none
  | i + 1 => match fewM E i with
    | none => if E i then some i else none
    | some b => if cnt i < cnt b ∧ E i = true then some i else some b
theorem fewM_ok (E : Nat → Bool) : ∀ i, (fewM E i = none → ∀ s, s < i → E s = false) ∧ (∀ b, fewM E i = some b → b < i ∧ E b = true ∧ ∀ s, s < i → E s = true → cnt b ≤ cnt s ∧ (cnt s = cnt b → b ≤ s))
  | 0 => ⟨fun _ s h => by omega, fun b h => by cases h⟩
  | i + 1 => by
    obtain ⟨h1, h2⟩ := fewM_ok E i
    rw [fewM]
    cases hf : fewM E i with
    | none =>
      have h1 := h1 hf
      simp only
      by_cases he : E i = true
      · rw [if_pos he]
        refine ⟨fun z => (by cases z), fun b hb => ?_⟩
        cases hb
        refine ⟨by omega, he, fun s hs hs2 => ?_⟩
        by_cases e : s = i
        · subst e; exact ⟨Nat.le_refl _, fun _ => Nat.le_refl _⟩
        · rw [h1 s (by omega)] at hs2; cases hs2
      · rw [if_neg he]
        refine ⟨fun _ s hs => ?_, fun b hb => (by cases hb)⟩
        by_cases e : s = i
        · subst e
          cases hb : E s with
          | false => rfl
          | true => exact absurd hb he
        · exact h1 s (by omega)
    | some b0 =>
      obtain ⟨g1, g2, g3⟩ := h2 b0 hf
      simp only
      by_cases he : cnt i < cnt b0 ∧ E i = true
      · rw [if_pos he]
        refine ⟨fun z => (by cases z), fun b hb => ?_⟩
        cases hb
        refine ⟨by omega, he.2, fun s hs hs2 => ?_⟩
        by_cases e : s = i
        · subst e; exact ⟨Nat.le_refl _, fun _ => Nat.le_refl _⟩
        · have := g3 s (by omega) hs2
          exact ⟨by omega, by omega⟩
      · rw [if_neg he]
        refine ⟨fun z => (by cases z), fun b hb => ?_⟩
        cases hb
        refine ⟨by omega, g2, fun s hs hs2 => ?_⟩
        by_cases e : s = i
        · subst e
          have : ¬ cnt s < cnt b0 := fun z => he ⟨z, hs2⟩
          exact ⟨by omega, by omega⟩
        · exact g3 s (by omega) hs2
theorem cnt_bd : ∀ c : Fin 8, ∀ a : Fin 128, a.val < 2 ^ c.val → cnt a.val ≤ c.val := by decide +kernel
theorem few_eq (E : Nat → Bool) {c : Nat} (hc : c ≤ 7) : fewC E c = fewM E (2 ^ c) := by
  have hp : (2 : Nat) ^ c ≤ 2 ^ 7 := Nat.pow_le_pow_right (by omega) hc
  have hcb : ∀ a, a < 2 ^ c → cnt a ≤ c := fun a ha => cnt_bd ⟨c, by omega⟩ ⟨a, by omega⟩ ha
  obtain ⟨h1, h2⟩ := fewM_ok E (2 ^ c)
  unfold fewC
  cases hg : firstG (fun m => firstF (fun a => decide (cnt a = m) && E a) (2 ^ c) 0) (c + 1) 0 with
  | none =>
    have hn := firstG_no hg
    cases hm : fewM E (2 ^ c) with
    | none => rfl
    | some b =>
      obtain ⟨g1, g2, g3⟩ := h2 b hm
      have := hn (cnt b) (by omega) (by have := hcb b g1; omega)
      rw [firstF_no] at this
      have := this b (by omega) (by omega)
      simp [g2] at this
  | some s =>
    obtain ⟨m, -, m1, m2, m3⟩ := firstG_ge hg
    obtain ⟨-, s1, s2, s3⟩ := firstF_ge m2
    simp only [Bool.and_eq_true, decide_eq_true_eq] at s2
    cases hm : fewM E (2 ^ c) with
    | none =>
      have := h1 hm s (by omega)
      rw [s2.2] at this
      cases this
    | some b =>
      obtain ⟨g1, g2, g3⟩ := h2 b hm
      have l1 := g3 s (by omega) s2.2
      have l2 : ¬ cnt b < m := fun z => by
        have := m3 (cnt b) (by omega) z
        rw [firstF_no] at this
        have := this b (by omega) (by omega)
        simp [g2] at this
      have l3 : ¬ b < s := fun z => by
        have := s3 b (by omega) z
        have e : cnt b = m := by omega
        simp [g2, e] at this
      congr 1
      omega
theorem op_enough {CALL : CT} (hC : RuleAll CALL) {r : Nat} {σ : AM} {K : AV → AV → AM → Prop} {n : Nat} {h0 : Nat → Int} (hn : NH σ n h0) {y z : Int} (y1 : -2147483648 ≤ y) (y2 : y < 2147483648) (z1 : -2147483648 ≤ z) (z2 : z < 2147483648) (h : ∀ v σ2, SC σ σ2 → σ2.1 1 0 16 = σ2.1 46 0 2 → K v v σ2) : CALL (r + 20) n_x_enough [.inr (.inr (1, 0)), .inl (Int32.ofInt y), .inl (Int32.ofInt z)] σ (fun v σ1 => CALL (r + 20) n_m_enough [.inr (.inr (46, 0)), .inl (Int32.ofInt y), .inl (Int32.ofInt z)] σ1 (fun v' σ2 => K v v' σ2)) := by
  obtain ⟨n45, hnn, hr, hm, ⟨hw, hw67⟩, h59⟩ := id hn
  have b := hw.1
  obtain ⟨q0, q1, q2, q3, q4, q5, q6, q7, q8, q9, qa, qt, qm, qe⟩ := id hr
  have hp : (2 : Nat) ^ (h0 1).toNat ≤ 2 ^ 7 := Nat.pow_le_pow_right (by omega) (by omega)
  have bad : ¬ ((0 ≤ y ∧ y < ((2 ^ (h0 1).toNat : Nat) : Int)) ∧ 0 ≤ z ∧ z ≤ 60) → CALL (r + 20) n_m_enough [.inr (.inr (46, 0)), .inl (Int32.ofInt y), .inl (Int32.ofInt z)] (wI σ 1 0 16 (Int32.ofInt 1)) (fun v' σ2 => K (.inl (Int32.ofInt (-1))) v' σ2) := by
    intro hb
    refine r_m_enough hC (fun J hJ => ?_)
    refine hJ _ _ _ _ ?_
    conv => whnf
    refine s_m_areMonks hC hm.c hw y1 y2 ?_
    conv => whnf
    refine ⟨fun c => ?_, fun c => ?_⟩ <;> (try simp (disch := omega) only [oi_le, oi_lt, oi_eq, oi_lt0, oi_le0, oi_0lt, oi_0le, oi_eq0, oi_eq1, bI_eq0, bI_ne0, bI_eq1, decide_eq_true_eq, decide_eq_false_iff_not, lc_lt, lc_gt, lc_eq, lc_ge, lc_le, ol_lt, ol_eq, ne_eq, Int.not_lt, Int.not_le, Bool.not_eq_true, Bool.not_eq_false, Decidable.not_not, not_true_eq_false, not_false_eq_true, Bool.true_eq_false, Bool.false_eq_true] at c) <;> (first | (exfalso; omega) | ((with_reducible refine hJ _ _ _ _ ?_); conv => whnf) | (conv => whnf))
    · refine s_m_refuse hC ?_
      conv => whnf
      refine hJ _ _ _ _ ?_
      conv => whnf
      exact h _ _ done2.1 done2.2
    · refine s_m_isShort hC (by omega) (by omega) ?_
      conv => whnf
      refine ⟨fun c2 => ?_, fun c2 => ?_⟩ <;> (try simp (disch := omega) only [oi_le, oi_lt, oi_eq, oi_lt0, oi_le0, oi_0lt, oi_0le, oi_eq0, oi_eq1, bI_eq0, bI_ne0, bI_eq1, decide_eq_true_eq, decide_eq_false_iff_not, lc_lt, lc_gt, lc_eq, lc_ge, lc_le, ol_lt, ol_eq, ne_eq, Int.not_lt, Int.not_le, Bool.not_eq_true, Bool.not_eq_false, Decidable.not_not, not_true_eq_false, not_false_eq_true, Bool.true_eq_false, Bool.false_eq_true] at c2) <;> (first | (exfalso; omega) | ((with_reducible refine hJ _ _ _ _ ?_); conv => whnf) | (conv => whnf))
      refine s_m_refuse hC ?_
      conv => whnf
      refine hJ _ _ _ _ ?_
      conv => whnf
      exact h _ _ done2.1 done2.2
  refine r_x_enough hC (fun J hJ => ?_)
  refine hJ _ _ _ _ ?_
  conv => whnf
  refine s_isSet hC hn y1 y2 ?_
  conv => whnf
  refine ⟨fun c => ?_, fun c => ?_⟩ <;> (try simp (disch := omega) only [oi_le, oi_lt, oi_eq, oi_lt0, oi_le0, oi_0lt, oi_0le, oi_eq0, oi_eq1, bI_eq0, bI_ne0, bI_eq1, decide_eq_true_eq, decide_eq_false_iff_not, lc_lt, lc_gt, lc_eq, lc_ge, lc_le, ol_lt, ol_eq, ne_eq, Int.not_lt, Int.not_le, Bool.not_eq_true, Bool.not_eq_false, Decidable.not_not, not_true_eq_false, not_false_eq_true, Bool.true_eq_false, Bool.false_eq_true] at c) <;> (first | (exfalso; omega) | ((with_reducible refine hJ _ _ _ _ ?_); conv => whnf) | (conv => whnf))
  · refine s_none hC ?_
    conv => whnf
    exact bad (fun z => c z.1)
  · refine s_withinI hC (by omega) (by omega) (by omega) (by omega) (by omega) (by omega) ?_
    conv => whnf
    refine ⟨fun c3 => ?_, fun c3 => ?_⟩ <;> (try simp (disch := omega) only [oi_le, oi_lt, oi_eq, oi_lt0, oi_le0, oi_0lt, oi_0le, oi_eq0, oi_eq1, bI_eq0, bI_ne0, bI_eq1, decide_eq_true_eq, decide_eq_false_iff_not, lc_lt, lc_gt, lc_eq, lc_ge, lc_le, ol_lt, ol_eq, ne_eq, Int.not_lt, Int.not_le, Bool.not_eq_true, Bool.not_eq_false, Decidable.not_not, not_true_eq_false, not_false_eq_true, Bool.true_eq_false, Bool.false_eq_true] at c3) <;> (first | (exfalso; omega) | ((with_reducible refine hJ _ _ _ _ ?_); conv => whnf) | (conv => whnf))
    · rw [hnn]
      refine ⟨by omega, ?_⟩
      conv => whnf
      obtain ⟨k, rfl⟩ : ∃ k : Nat, z = (k : Int) := ⟨z.toNat, by omega⟩
      obtain ⟨a, rfl⟩ : ∃ a : Nat, y = (a : Int) := ⟨y.toNat, by omega⟩
      have ha : a < 2 ^ (h0 1).toNat := Int.ofNat_lt.mp c.2
      refine s_suffices hC hr ⟨hw, hw67⟩ (by omega) (by omega) ha ?_
      intro σ1 g1 g2
      have sc1 := SC.hs (by omega) g1
      conv => whnf
      refine s_truth hC ?_
      conv => whnf
      refine s_give hC ?_
      conv => whnf
      refine r_m_enough hC (fun J hJ => ?_)
      refine hJ _ _ _ _ ?_
      conv => whnf
      refine s_m_areMonks hC (m0_sh hm sc1) hw y1 y2 ?_
      conv => whnf
      refine ⟨fun c4 => ?_, fun c4 => ?_⟩ <;> (try simp (disch := omega) only [oi_le, oi_lt, oi_eq, oi_lt0, oi_le0, oi_0lt, oi_0le, oi_eq0, oi_eq1, bI_eq0, bI_ne0, bI_eq1, decide_eq_true_eq, decide_eq_false_iff_not, lc_lt, lc_gt, lc_eq, lc_ge, lc_le, ol_lt, ol_eq, ne_eq, Int.not_lt, Int.not_le, Bool.not_eq_true, Bool.not_eq_false, Decidable.not_not, not_true_eq_false, not_false_eq_true, Bool.true_eq_false, Bool.false_eq_true] at c4) <;> (first | (exfalso; omega) | ((with_reducible refine hJ _ _ _ _ ?_); conv => whnf) | (conv => whnf))
      · refine s_m_isShort hC (by omega) (by omega) ?_
        conv => whnf
        refine ⟨fun c5 => ?_, fun c5 => ?_⟩ <;> (try simp (disch := omega) only [oi_le, oi_lt, oi_eq, oi_lt0, oi_le0, oi_0lt, oi_0le, oi_eq0, oi_eq1, bI_eq0, bI_ne0, bI_eq1, decide_eq_true_eq, decide_eq_false_iff_not, lc_lt, lc_gt, lc_eq, lc_ge, lc_le, ol_lt, ol_eq, ne_eq, Int.not_lt, Int.not_le, Bool.not_eq_true, Bool.not_eq_false, Decidable.not_not, not_true_eq_false, not_false_eq_true, Bool.true_eq_false, Bool.false_eq_true] at c5) <;> (first | (exfalso; omega) | ((with_reducible refine hJ _ _ _ _ ?_); conv => whnf) | (conv => whnf))
        refine s_m_areEnough hC (m0_sh hm sc1) ⟨hw, hw67⟩ (by omega) (by omega) ?_
        intro σ2 f1
        have dn := done3 (sc_hc (x := Int32.ofInt 0) g1).1 (sc_hc (x := Int32.ofInt 0) g1).2 f1 tS_k tS_16
        conv => whnf
        refine ⟨fun c6 => ?_, fun c6 => ?_⟩ <;> (try simp (disch := omega) only [oi_le, oi_lt, oi_eq, oi_lt0, oi_le0, oi_0lt, oi_0le, oi_eq0, oi_eq1, bI_eq0, bI_ne0, bI_eq1, decide_eq_true_eq, decide_eq_false_iff_not, lc_lt, lc_gt, lc_eq, lc_ge, lc_le, ol_lt, ol_eq, ne_eq, Int.not_lt, Int.not_le, Bool.not_eq_true, Bool.not_eq_false, Decidable.not_not, not_true_eq_false, not_false_eq_true, Bool.true_eq_false, Bool.false_eq_true] at c6) <;> (first | (exfalso; omega) | ((with_reducible refine hJ _ _ _ _ ?_); conv => whnf) | (conv => whnf))
        · refine hJ _ _ _ _ ?_
          conv => whnf
          refine s_m_gives hC ?_
          conv => whnf
          refine hJ _ _ _ _ ?_
          conv => whnf
          rw [c6]
          exact h _ _ dn.1 dn.2
        · refine hJ _ _ _ _ ?_
          conv => whnf
          refine s_m_gives hC ?_
          conv => whnf
          refine hJ _ _ _ _ ?_
          conv => whnf
          rw [c6]
          exact h _ _ dn.1 dn.2
    · refine hJ _ _ _ _ ?_
      conv => whnf
      refine s_none hC ?_
      conv => whnf
      exact bad (fun z => by omega)
theorem few_lt {E : Nat → Bool} {c b : Nat} (h : fewM E (2 ^ c) = some b) (hc : c ≤ 7) : b < 128 := by
  have := (fewM_ok E (2 ^ c)).2 b h
  have hp : (2 : Nat) ^ c ≤ 2 ^ 7 := Nat.pow_le_pow_right (by omega) hc
  omega
theorem s_smallest {CALL : CT} (hC : RuleAll CALL) {r : Nat} {σ : AM} {K : AV → AM → Prop} {n k : Nat} {h0 : Nat → Int} (hr : HRep σ n h0) (hw : WP h0) (hn : 4 ≤ n) (h5 : h0 5 + k ≤ 20000) (h : ∀ σ' : AM, Fr (HS 0) σ σ' → σ'.2.2 = σ.2.2 → K (.inl (Int32.ofInt (opI (fewM (enS h0 k) (2 ^ (h0 1).toNat))))) σ') : CALL (r + 7) n_Ahead_smallest [.inr (.inr (11, 0)), .inr (.inr (22, n)), .inl (Int32.ofInt k)] σ K := by
  refine r_Ahead_smallest hC (fun J hJ => ?_)
  refine hJ _ _ _ _ ?_
  conv => whnf
  have b := hw.1.1
  rw [← few_eq _ (by omega)] at h
  have hp : (2 : Nat) ^ (h0 1).toNat ≤ 2 ^ 7 := Nat.pow_le_pow_right (by omega) (by omega)
  have e0 : Int32.ofInt 1 <<< (Int32.ofInt (h0 1) &&& 31) = Int32.ofInt ((2 ^ (h0 1).toNat : Nat) : Int) := by
    rw [show Int32.ofInt (h0 1) = Int32.ofInt (((h0 1).toNat : Nat) : Int) by congr 1; omega, oi_shl (by omega)]
  rw [hr.2.1, e0]
  unfold fewC at h
  have fr : ∀ σ1 : AM, Fr (HS 0) σ σ1 → HRep σ1 n h0 := fun σ1 hf => hr.fr hf (fun t h1 h2 z => by have := z.2.2; omega)
  have hal : ∀ s, s < 2 ^ (h0 1).toNat → s < 2 ^ (h0 1).toNat := fun _ z => z
  generalize hP : 2 ^ (h0 1).toNat = P at h hp hal ⊢
  have inner : ∀ (q i : Nat) (m : Nat) (σ1 : AM), i + q = P → m ≤ 7 → Fr (HS 0) σ σ1 → σ1.2.2 = σ.2.2 → (∀ σ2 : AM, Fr (HS 0) σ σ2 → σ2.2.2 = σ.2.2 → match firstF (fun a => decide (cnt a = m) && enS h0 k a) q i with | some s => K (.inl (Int32.ofInt (s : Int))) σ2 | none => J 64 [.inr (.inr (11, 0)), .inr (.inr (22, n)), .inl (Int32.ofInt (k : Int)), .inl (Int32.ofInt (P : Int)), .inl (Int32.ofInt (m : Int)), .inl (Int32.ofInt (P : Int))] [] σ2) → J 28 [.inr (.inr (11, 0)), .inr (.inr (22, n)), .inl (Int32.ofInt (k : Int)), .inl (Int32.ofInt (P : Int)), .inl (Int32.ofInt (m : Int)), .inl (Int32.ofInt (i : Int))] [] σ1 := by
    intro q
    induction q with
    | zero =>
      intro i m σ1 hi hm g1 g2 hk
      have : i = P := by omega
      subst this
      refine hJ _ _ _ _ ?_
      conv => whnf
      refine ⟨fun c => ?_, fun c => ?_⟩ <;> (try simp (disch := omega) only [oi_le, oi_lt, oi_eq, oi_lt0, oi_le0, oi_0lt, oi_0le, oi_eq0, oi_eq1, bI_eq0, bI_ne0, bI_eq1, decide_eq_true_eq, decide_eq_false_iff_not, lc_lt, lc_gt, lc_eq, lc_ge, lc_le, ol_lt, ol_eq, ne_eq, Int.not_lt, Int.not_le, Bool.not_eq_true, Bool.not_eq_false, Decidable.not_not, not_true_eq_false, not_false_eq_true, Bool.true_eq_false, Bool.false_eq_true] at c) <;> (first | (exfalso; omega) | ((fail_if_success with_reducible refine hJ _ _ _ _ ?_); conv => whnf) | skip)
      exact hk σ1 g1 g2
    | succ q ih =>
      intro i m σ1 hi hm g1 g2 hk
      rw [firstF] at hk
      have ci := cnt_le ⟨i, by omega⟩
      simp only at ci
      refine hJ _ _ _ _ ?_
      conv => whnf
      refine ⟨fun c => ?_, fun c => ?_⟩ <;> (try simp (disch := omega) only [oi_le, oi_lt, oi_eq, oi_lt0, oi_le0, oi_0lt, oi_0le, oi_eq0, oi_eq1, bI_eq0, bI_ne0, bI_eq1, decide_eq_true_eq, decide_eq_false_iff_not, lc_lt, lc_gt, lc_eq, lc_ge, lc_le, ol_lt, ol_eq, ne_eq, Int.not_lt, Int.not_le, Bool.not_eq_true, Bool.not_eq_false, Decidable.not_not, not_true_eq_false, not_false_eq_true, Bool.true_eq_false, Bool.false_eq_true] at c) <;> (first | (exfalso; omega) | ((with_reducible refine hJ _ _ _ _ ?_); conv => whnf) | (conv => whnf))
      refine s_bitCount hC (by omega) ?_
      conv => whnf
      by_cases c2 : cnt i = m
      · rw [c2]
        refine ⟨fun c3 => ?_, fun c3 => ?_⟩ <;> (try simp (disch := omega) only [oi_le, oi_lt, oi_eq, oi_lt0, oi_le0, oi_0lt, oi_0le, oi_eq0, oi_eq1, bI_eq0, bI_ne0, bI_eq1, decide_eq_true_eq, decide_eq_false_iff_not, lc_lt, lc_gt, lc_eq, lc_ge, lc_le, ol_lt, ol_eq, ne_eq, Int.not_lt, Int.not_le, Bool.not_eq_true, Bool.not_eq_false, Decidable.not_not, not_true_eq_false, not_false_eq_true, Bool.true_eq_false, Bool.false_eq_true] at c3) <;> (first | (exfalso; omega) | ((with_reducible refine hJ _ _ _ _ ?_); conv => whnf) | (conv => whnf))
        refine s_suffices hC (fr σ1 g1) hw hn h5 (by rw [hP]; omega) ?_
        intro σ2 f1 f2
        conv => whnf
        refine ⟨fun c4 => ?_, fun c4 => ?_⟩ <;> (try simp (disch := omega) only [oi_le, oi_lt, oi_eq, oi_lt0, oi_le0, oi_0lt, oi_0le, oi_eq0, oi_eq1, bI_eq0, bI_ne0, bI_eq1, decide_eq_true_eq, decide_eq_false_iff_not, lc_lt, lc_gt, lc_eq, lc_ge, lc_le, ol_lt, ol_eq, ne_eq, Int.not_lt, Int.not_le, Bool.not_eq_true, Bool.not_eq_false, Decidable.not_not, not_true_eq_false, not_false_eq_true, Bool.true_eq_false, Bool.false_eq_true] at c4) <;> (first | (exfalso; omega) | ((with_reducible refine hJ _ _ _ _ ?_); conv => whnf) | (conv => whnf))
        · rw [oi_succ]
          rw [if_neg (by simp [c4])] at hk
          exact ih (i + 1) m σ2 (by omega) hm (g1.tr f1) (f2.trans g2) hk
        · rw [if_pos (by simp [c4, c2])] at hk
          exact hk σ2 (g1.tr f1) (f2.trans g2)
      · refine ⟨fun c3 => ?_, fun c3 => ?_⟩ <;> (try simp (disch := omega) only [oi_le, oi_lt, oi_eq, oi_lt0, oi_le0, oi_0lt, oi_0le, oi_eq0, oi_eq1, bI_eq0, bI_ne0, bI_eq1, decide_eq_true_eq, decide_eq_false_iff_not, lc_lt, lc_gt, lc_eq, lc_ge, lc_le, ol_lt, ol_eq, ne_eq, Int.not_lt, Int.not_le, Bool.not_eq_true, Bool.not_eq_false, Decidable.not_not, not_true_eq_false, not_false_eq_true, Bool.true_eq_false, Bool.false_eq_true] at c3) <;> (first | (exfalso; omega) | ((with_reducible refine hJ _ _ _ _ ?_); conv => whnf) | (conv => whnf))
        rw [oi_succ]
        rw [if_neg (by simp [c2])] at hk
        exact ih (i + 1) m σ1 (by omega) hm g1 g2 hk
  generalize hW : firstG (fun m => firstF (fun a => decide (cnt a = m) && enS h0 k a) P 0) ((h0 1).toNat + 1) 0 = W at h
  have outer : ∀ (q m : Nat) (x : AV) (σ1 : AM), m + q = (h0 1).toNat + 1 → Fr (HS 0) σ σ1 → σ1.2.2 = σ.2.2 → W = firstG (fun m => firstF (fun a => decide (cnt a = m) && enS h0 k a) P 0) q m → J 13 [.inr (.inr (11, 0)), .inr (.inr (22, n)), .inl (Int32.ofInt (k : Int)), .inl (Int32.ofInt (P : Int)), .inl (Int32.ofInt (m : Int)), x] [] σ1 := by
    intro q
    induction q with
    | zero =>
      intro m x σ1 hi g1 g2 g4
      refine hJ _ _ _ _ ?_
      conv => whnf
      rw [(fr σ1 g1).2.1]
      refine ⟨fun c => ?_, fun c => ?_⟩ <;> (try simp (disch := omega) only [oi_le, oi_lt, oi_eq, oi_lt0, oi_le0, oi_0lt, oi_0le, oi_eq0, oi_eq1, bI_eq0, bI_ne0, bI_eq1, decide_eq_true_eq, decide_eq_false_iff_not, lc_lt, lc_gt, lc_eq, lc_ge, lc_le, ol_lt, ol_eq, ne_eq, Int.not_lt, Int.not_le, Bool.not_eq_true, Bool.not_eq_false, Decidable.not_not, not_true_eq_false, not_false_eq_true, Bool.true_eq_false, Bool.false_eq_true] at c) <;> (first | (exfalso; omega) | ((with_reducible refine hJ _ _ _ _ ?_); conv => whnf) | (conv => whnf))
      have hh := h σ1 g1 g2
      rw [g4] at hh
      exact hh
    | succ q ih =>
      intro m x σ1 hi g1 g2 g4
      rw [firstG] at g4
      refine hJ _ _ _ _ ?_
      conv => whnf
      rw [(fr σ1 g1).2.1]
      refine ⟨fun c => ?_, fun c => ?_⟩ <;> (try simp (disch := omega) only [oi_le, oi_lt, oi_eq, oi_lt0, oi_le0, oi_0lt, oi_0le, oi_eq0, oi_eq1, bI_eq0, bI_ne0, bI_eq1, decide_eq_true_eq, decide_eq_false_iff_not, lc_lt, lc_gt, lc_eq, lc_ge, lc_le, ol_lt, ol_eq, ne_eq, Int.not_lt, Int.not_le, Bool.not_eq_true, Bool.not_eq_false, Decidable.not_not, not_true_eq_false, not_false_eq_true, Bool.true_eq_false, Bool.false_eq_true] at c) <;> (first | (exfalso; omega) | ((with_reducible refine hJ _ _ _ _ ?_); conv => whnf) | (conv => whnf))
      refine inner P 0 m σ1 (by omega) (by omega) g1 g2 ?_
      intro σ2 f1 f2
      cases hf : firstF (fun a => decide (cnt a = m) && enS h0 k a) P 0 with
      | some s =>
        rw [hf] at g4
        have hh := h σ2 f1 f2
        rw [g4] at hh
        exact hh
      | none =>
        rw [hf] at g4
        refine hJ _ _ _ _ ?_
        conv => whnf
        rw [oi_succ]
        exact ih (m + 1) _ σ2 (by omega) f1 f2 g4
  exact outer ((h0 1).toNat + 1) 0 _ σ (by omega) Fr.rf rfl hW.symm
theorem s_m_fewestOf {CALL : CT} (hC : RuleAll CALL) {r : Nat} {σ : AM} {K : AV → AM → Prop} {k : Nat} {h0 : Nat → Int} (hr : M0 σ h0) (hw : WP h0) (h5 : h0 5 + k ≤ 20000) (h : ∀ σ' : AM, Ch tS σ σ' → K (.inl (Int32.ofInt (opI (fewM (enS h0 k) (2 ^ (h0 1).toNat))))) σ') : CALL (r + 10) n_m_fewestOf [.inr (.inr (46, 0)), .inl (Int32.ofInt k)] σ K := by
  refine r_m_fewestOf hC (fun J hJ => ?_)
  refine hJ _ _ _ _ ?_
  conv => whnf
  have b := hw.1.1
  have hp : (2 : Nat) ^ (h0 1).toNat ≤ 2 ^ 7 := Nat.pow_le_pow_right (by omega) (by omega)
  have e0 : Int32.ofInt 1 <<< (Int32.ofInt (h0 1) &&& 31) = Int32.ofInt ((2 ^ (h0 1).toNat : Nat) : Int) := by
    rw [show Int32.ofInt (h0 1) = Int32.ofInt (((h0 1).toNat : Nat) : Int) by congr 1; omega, oi_shl (by omega)]
  have hl : ∀ i b, fewM (enS h0 k) i = some b → b < i := fun i b hb => ((fewM_ok (enS h0 k) i).2 b hb).1
  have m0 : ∀ σ1 : AM, Ch tS σ σ1 → M0 σ1 h0 := fun σ1 hc => hr.ch hc (fun j hj => by unfold tS; omega)
  generalize 2 ^ (h0 1).toNat = P at h hp e0
  have loop : ∀ (q i : Nat) (σ1 : AM), i + q = P → Ch tS σ σ1 → J 4 [.inr (.inr (46, 0)), .inl (Int32.ofInt (k : Int)), .inl (Int32.ofInt (opI (fewM (enS h0 k) i))), .inl (Int32.ofInt (i : Int))] [] σ1 := by
    intro q
    induction q with
    | zero =>
      intro i σ1 hi g1
      have : i = P := by omega
      subst this
      refine hJ _ _ _ _ ?_
      conv => whnf
      refine ⟨(oi_in (by omega) (by omega)).mpr ⟨by omega, by omega⟩, ?_⟩
      conv => whnf
      rw [show (Int32.ofInt 1).toNatClampNeg = 1 from rfl, (m0 σ1 g1) 1 (by omega)]
      rw [e0]
      refine ⟨fun c => ?_, fun c => ?_⟩ <;> (try simp (disch := omega) only [oi_le, oi_lt, oi_eq, oi_lt0, oi_le0, oi_0lt, oi_0le, oi_eq0, oi_eq1, bI_eq0, bI_ne0, bI_eq1, decide_eq_true_eq, decide_eq_false_iff_not, lc_lt, lc_gt, lc_eq, lc_ge, lc_le, ol_lt, ol_eq, ne_eq, Int.not_lt, Int.not_le, Bool.not_eq_true, Bool.not_eq_false, Decidable.not_not, not_true_eq_false, not_false_eq_true, Bool.true_eq_false, Bool.false_eq_true] at c) <;> (first | (exfalso; omega) | ((with_reducible refine hJ _ _ _ _ ?_); conv => whnf) | (conv => whnf))
      exact h σ1 g1
    | succ q ih =>
      intro i σ1 hi g1
      have next : ∀ (σ2 : AM) (x : Int), Ch tS σ σ2 → x = opI (fewM (enS h0 k) (i + 1)) → J 43 [.inr (.inr (46, 0)), .inl (Int32.ofInt (k : Int)), .inl (Int32.ofInt x), .inl (Int32.ofInt (i : Int))] [] σ2 := by
        intro σ2 x g2 hx
        refine hJ _ _ _ _ ?_
        conv => whnf
        rw [oi_succ, hx]
        exact ih (i + 1) σ2 (by omega) g2
      have ask : (match fewM (enS h0 k) i with | none => True | some b => cnt i < cnt b) → J 32 [.inr (.inr (46, 0)), .inl (Int32.ofInt (k : Int)), .inl (Int32.ofInt (opI (fewM (enS h0 k) i))), .inl (Int32.ofInt (i : Int))] [] σ1 := by
        intro hb
        refine hJ _ _ _ _ ?_
        conv => whnf
        refine s_m_areEnough hC (m0 σ1 g1) hw h5 (by omega) ?_
        intro σ2 f1
        conv => whnf
        refine ⟨fun c => ?_, fun c => ?_⟩ <;> (try simp (disch := omega) only [oi_le, oi_lt, oi_eq, oi_lt0, oi_le0, oi_0lt, oi_0le, oi_eq0, oi_eq1, bI_eq0, bI_ne0, bI_eq1, decide_eq_true_eq, decide_eq_false_iff_not, lc_lt, lc_gt, lc_eq, lc_ge, lc_le, ol_lt, ol_eq, ne_eq, Int.not_lt, Int.not_le, Bool.not_eq_true, Bool.not_eq_false, Decidable.not_not, not_true_eq_false, not_false_eq_true, Bool.true_eq_false, Bool.false_eq_true] at c) <;> (first | (exfalso; omega) | ((fail_if_success with_reducible refine hJ _ _ _ _ ?_); conv => whnf) | skip)
        · refine next σ2 _ (g1.tr f1) ?_
          rw [fewM]
          cases hf : fewM (enS h0 k) i with
          | none => simp [c]
          | some b => simp [c]
        · refine next σ2 _ (g1.tr f1) ?_
          rw [fewM]
          cases hf : fewM (enS h0 k) i with
          | none => simp [c]; rfl
          | some b =>
            rw [hf] at hb
            simp only at hb
            simp [c, hb]
            rfl
      refine hJ _ _ _ _ ?_
      conv => whnf
      refine ⟨(oi_in (by omega) (by omega)).mpr ⟨by omega, by omega⟩, ?_⟩
      conv => whnf
      rw [show (Int32.ofInt 1).toNatClampNeg = 1 from rfl, (m0 σ1 g1) 1 (by omega)]
      rw [e0]
      refine ⟨fun c => ?_, fun c => ?_⟩ <;> (try simp (disch := omega) only [oi_le, oi_lt, oi_eq, oi_lt0, oi_le0, oi_0lt, oi_0le, oi_eq0, oi_eq1, bI_eq0, bI_ne0, bI_eq1, decide_eq_true_eq, decide_eq_false_iff_not, lc_lt, lc_gt, lc_eq, lc_ge, lc_le, ol_lt, ol_eq, ne_eq, Int.not_lt, Int.not_le, Bool.not_eq_true, Bool.not_eq_false, Decidable.not_not, not_true_eq_false, not_false_eq_true, Bool.true_eq_false, Bool.false_eq_true] at c) <;> (first | (exfalso; omega) | ((with_reducible refine hJ _ _ _ _ ?_); conv => whnf) | (conv => whnf))
      cases hf : fewM (enS h0 k) i with
      | none =>
        rw [hf] at ask
        rw [show opI none = -1 from rfl] at ask ⊢
        refine ⟨fun c2 => ?_, fun c2 => ?_⟩ <;> (try simp (disch := omega) only [oi_le, oi_lt, oi_eq, oi_lt0, oi_le0, oi_0lt, oi_0le, oi_eq0, oi_eq1, bI_eq0, bI_ne0, bI_eq1, decide_eq_true_eq, decide_eq_false_iff_not, lc_lt, lc_gt, lc_eq, lc_ge, lc_le, ol_lt, ol_eq, ne_eq, Int.not_lt, Int.not_le, Bool.not_eq_true, Bool.not_eq_false, Decidable.not_not, not_true_eq_false, not_false_eq_true, Bool.true_eq_false, Bool.false_eq_true] at c2) <;> (first | (exfalso; omega) | ((fail_if_success with_reducible refine hJ _ _ _ _ ?_); conv => whnf) | skip)
        exact ask trivial
      | some b0 =>
        rw [hf] at ask
        have hb0 := hl i b0 hf
        have ci := cnt_le ⟨i, by omega⟩
        have cb := cnt_le ⟨b0, by omega⟩
        simp only at ci cb
        rw [show opI (some b0) = (b0 : Int) from rfl] at ask ⊢
        refine ⟨fun c2 => ?_, fun c2 => ?_⟩ <;> (try simp (disch := omega) only [oi_le, oi_lt, oi_eq, oi_lt0, oi_le0, oi_0lt, oi_0le, oi_eq0, oi_eq1, bI_eq0, bI_ne0, bI_eq1, decide_eq_true_eq, decide_eq_false_iff_not, lc_lt, lc_gt, lc_eq, lc_ge, lc_le, ol_lt, ol_eq, ne_eq, Int.not_lt, Int.not_le, Bool.not_eq_true, Bool.not_eq_false, Decidable.not_not, not_true_eq_false, not_false_eq_true, Bool.true_eq_false, Bool.false_eq_true] at c2) <;> (first | (exfalso; omega) | ((with_reducible refine hJ _ _ _ _ ?_); conv => whnf) | (conv => whnf))
        refine s_m_bits hC (by omega) ?_
        conv => whnf
        refine s_m_bits hC (by omega) ?_
        conv => whnf
        refine ⟨fun c3 => ?_, fun c3 => ?_⟩ <;> (try simp (disch := omega) only [oi_le, oi_lt, oi_eq, oi_lt0, oi_le0, oi_0lt, oi_0le, oi_eq0, oi_eq1, bI_eq0, bI_ne0, bI_eq1, decide_eq_true_eq, decide_eq_false_iff_not, lc_lt, lc_gt, lc_eq, lc_ge, lc_le, ol_lt, ol_eq, ne_eq, Int.not_lt, Int.not_le, Bool.not_eq_true, Bool.not_eq_false, Decidable.not_not, not_true_eq_false, not_false_eq_true, Bool.true_eq_false, Bool.false_eq_true] at c3) <;> (first | (exfalso; omega) | ((fail_if_success with_reducible refine hJ _ _ _ _ ?_); conv => whnf) | skip)
        · refine next σ1 _ g1 ?_
          rw [fewM, hf]
          simp only
          rw [if_neg (fun z => by omega)]
          rfl
        · exact ask (by show cnt i < cnt b0; omega)
  exact loop P 0 σ (by omega) Ch.rf
theorem few_bd (h0 : Nat → Int) (k : Nat) (hw : WF h0) : -1 ≤ opI (fewM (enS h0 k) (2 ^ (h0 1).toNat)) ∧ opI (fewM (enS h0 k) (2 ^ (h0 1).toNat)) < 128 := by
  have b := hw.1
  cases hf : fewM (enS h0 k) (2 ^ (h0 1).toNat) with
  | none => exact ⟨by decide, by decide⟩
  | some t =>
    have := few_lt hf (by omega)
    show -1 ≤ (t : Int) ∧ (t : Int) < 128
    omega
theorem op_fewestSet {CALL : CT} (hC : RuleAll CALL) {r : Nat} {σ : AM} {K : AV → AV → AM → Prop} {n : Nat} {h0 : Nat → Int} (hn : NH σ n h0) {z : Int} (z1 : -2147483648 ≤ z) (z2 : z < 2147483648) (h : ∀ v σ2, SC σ σ2 → σ2.1 1 0 16 = σ2.1 46 0 2 → K v v σ2) : CALL (r + 20) n_x_fewestSet [.inr (.inr (1, 0)), .inl (Int32.ofInt z)] σ (fun v σ1 => CALL (r + 20) n_m_fewestSet [.inr (.inr (46, 0)), .inl (Int32.ofInt z)] σ1 (fun v' σ2 => K v v' σ2)) := by
  obtain ⟨n45, hnn, hr, hm, ⟨hw, hw67⟩, h59⟩ := id hn
  have b := hw.1
  obtain ⟨q0, q1, q2, q3, q4, q5, q6, q7, q8, q9, qa, qt, qm, qe⟩ := id hr
  refine r_x_fewestSet hC (fun J hJ => ?_)
  refine hJ _ _ _ _ ?_
  conv => whnf
  refine s_withinI hC (by omega) (by omega) (by omega) (by omega) (by omega) (by omega) ?_
  conv => whnf
  refine ⟨fun c => ?_, fun c => ?_⟩ <;> (try simp (disch := omega) only [oi_le, oi_lt, oi_eq, oi_lt0, oi_le0, oi_0lt, oi_0le, oi_eq0, oi_eq1, bI_eq0, bI_ne0, bI_eq1, decide_eq_true_eq, decide_eq_false_iff_not, lc_lt, lc_gt, lc_eq, lc_ge, lc_le, ol_lt, ol_eq, ne_eq, Int.not_lt, Int.not_le, Bool.not_eq_true, Bool.not_eq_false, Decidable.not_not, not_true_eq_false, not_false_eq_true, Bool.true_eq_false, Bool.false_eq_true] at c) <;> (first | (exfalso; omega) | ((with_reducible refine hJ _ _ _ _ ?_); conv => whnf) | (conv => whnf))
  · rw [hnn]
    refine ⟨by omega, ?_⟩
    conv => whnf
    obtain ⟨k, rfl⟩ : ∃ k : Nat, z = (k : Int) := ⟨z.toNat, by omega⟩
    have fb := few_bd h0 k hw
    refine s_smallest hC hr ⟨hw, hw67⟩ (by omega) (by omega) ?_
    intro σ1 g1 g2
    have sc1 := SC.hs (by omega) g1
    conv => whnf
    refine s_giveOrNone hC (by omega) (by omega) ?_
    conv => whnf
    refine r_m_fewestSet hC (fun J hJ => ?_)
    refine hJ _ _ _ _ ?_
    conv => whnf
    refine s_m_isShort hC (by omega) (by omega) ?_
    conv => whnf
    refine ⟨fun c2 => ?_, fun c2 => ?_⟩ <;> (try simp (disch := omega) only [oi_le, oi_lt, oi_eq, oi_lt0, oi_le0, oi_0lt, oi_0le, oi_eq0, oi_eq1, bI_eq0, bI_ne0, bI_eq1, decide_eq_true_eq, decide_eq_false_iff_not, lc_lt, lc_gt, lc_eq, lc_ge, lc_le, ol_lt, ol_eq, ne_eq, Int.not_lt, Int.not_le, Bool.not_eq_true, Bool.not_eq_false, Decidable.not_not, not_true_eq_false, not_false_eq_true, Bool.true_eq_false, Bool.false_eq_true] at c2) <;> (first | (exfalso; omega) | ((with_reducible refine hJ _ _ _ _ ?_); conv => whnf) | (conv => whnf))
    refine s_m_fewestOf hC (m0_sh hm sc1) ⟨hw, hw67⟩ (by omega) ?_
    intro σ2 f1
    conv => whnf
    refine s_m_orNone hC (by omega) (by omega) ?_
    conv => whnf
    refine hJ _ _ _ _ ?_
    conv => whnf
    have dn := done3 (sc_hc g1).1 (sc_hc g1).2 f1 tS_k tS_16
    exact h _ _ dn.1 dn.2
  · refine s_none hC ?_
    conv => whnf
    refine r_m_fewestSet hC (fun J hJ => ?_)
    refine hJ _ _ _ _ ?_
    conv => whnf
    refine s_m_isShort hC (by omega) (by omega) ?_
    conv => whnf
    refine ⟨fun c2 => ?_, fun c2 => ?_⟩ <;> (try simp (disch := omega) only [oi_le, oi_lt, oi_eq, oi_lt0, oi_le0, oi_0lt, oi_0le, oi_eq0, oi_eq1, bI_eq0, bI_ne0, bI_eq1, decide_eq_true_eq, decide_eq_false_iff_not, lc_lt, lc_gt, lc_eq, lc_ge, lc_le, ol_lt, ol_eq, ne_eq, Int.not_lt, Int.not_le, Bool.not_eq_true, Bool.not_eq_false, Decidable.not_not, not_true_eq_false, not_false_eq_true, Bool.true_eq_false, Bool.false_eq_true] at c2) <;> (first | (exfalso; omega) | ((with_reducible refine hJ _ _ _ _ ?_); conv => whnf) | (conv => whnf))
    refine s_m_refuse hC ?_
    conv => whnf
    refine hJ _ _ _ _ ?_
    conv => whnf
    exact h _ _ done2.1 done2.2
theorem op_fewest {CALL : CT} (hC : RuleAll CALL) {r : Nat} {σ : AM} {K : AV → AV → AM → Prop} {n : Nat} {h0 : Nat → Int} (hn : NH σ n h0) {z : Int} (z1 : -2147483648 ≤ z) (z2 : z < 2147483648) (h : ∀ v σ2, SC σ σ2 → σ2.1 1 0 16 = σ2.1 46 0 2 → K v v σ2) : CALL (r + 20) n_x_fewest [.inr (.inr (1, 0)), .inl (Int32.ofInt z)] σ (fun v σ1 => CALL (r + 20) n_m_fewest [.inr (.inr (46, 0)), .inl (Int32.ofInt z)] σ1 (fun v' σ2 => K v v' σ2)) := by
  obtain ⟨n45, hnn, hr, hm, ⟨hw, hw67⟩, h59⟩ := id hn
  have b := hw.1
  obtain ⟨q0, q1, q2, q3, q4, q5, q6, q7, q8, q9, qa, qt, qm, qe⟩ := id hr
  refine r_x_fewest hC (fun J hJ => ?_)
  refine hJ _ _ _ _ ?_
  conv => whnf
  refine s_withinI hC (by omega) (by omega) (by omega) (by omega) (by omega) (by omega) ?_
  conv => whnf
  refine ⟨fun c => ?_, fun c => ?_⟩ <;> (try simp (disch := omega) only [oi_le, oi_lt, oi_eq, oi_lt0, oi_le0, oi_0lt, oi_0le, oi_eq0, oi_eq1, bI_eq0, bI_ne0, bI_eq1, decide_eq_true_eq, decide_eq_false_iff_not, lc_lt, lc_gt, lc_eq, lc_ge, lc_le, ol_lt, ol_eq, ne_eq, Int.not_lt, Int.not_le, Bool.not_eq_true, Bool.not_eq_false, Decidable.not_not, not_true_eq_false, not_false_eq_true, Bool.true_eq_false, Bool.false_eq_true] at c) <;> (first | (exfalso; omega) | ((with_reducible refine hJ _ _ _ _ ?_); conv => whnf) | (conv => whnf))
  · rw [hnn]
    refine ⟨by omega, ?_⟩
    conv => whnf
    obtain ⟨k, rfl⟩ : ∃ k : Nat, z = (k : Int) := ⟨z.toNat, by omega⟩
    refine s_smallest hC hr ⟨hw, hw67⟩ (by omega) (by omega) ?_
    intro σ1 g1 g2
    have sc1 := SC.hs (by omega) g1
    conv => whnf
    cases hf : fewM (enS h0 k) (2 ^ (h0 1).toNat) with
    | none =>
      rw [show opI none = -1 from rfl]
      refine ⟨fun c3 => ?_, fun c3 => ?_⟩ <;> (try simp (disch := omega) only [oi_le, oi_lt, oi_eq, oi_lt0, oi_le0, oi_0lt, oi_0le, oi_eq0, oi_eq1, bI_eq0, bI_ne0, bI_eq1, decide_eq_true_eq, decide_eq_false_iff_not, lc_lt, lc_gt, lc_eq, lc_ge, lc_le, ol_lt, ol_eq, ne_eq, Int.not_lt, Int.not_le, Bool.not_eq_true, Bool.not_eq_false, Decidable.not_not, not_true_eq_false, not_false_eq_true, Bool.true_eq_false, Bool.false_eq_true] at c3) <;> (first | (exfalso; omega) | ((with_reducible refine hJ _ _ _ _ ?_); conv => whnf) | (conv => whnf))
      refine s_none hC ?_
      conv => whnf
      refine hJ _ _ _ _ ?_
      conv => whnf
      refine r_m_fewest hC (fun J hJ => ?_)
      refine hJ _ _ _ _ ?_
      conv => whnf
      refine s_m_isShort hC (by omega) (by omega) ?_
      conv => whnf
      refine ⟨fun c2 => ?_, fun c2 => ?_⟩ <;> (try simp (disch := omega) only [oi_le, oi_lt, oi_eq, oi_lt0, oi_le0, oi_0lt, oi_0le, oi_eq0, oi_eq1, bI_eq0, bI_ne0, bI_eq1, decide_eq_true_eq, decide_eq_false_iff_not, lc_lt, lc_gt, lc_eq, lc_ge, lc_le, ol_lt, ol_eq, ne_eq, Int.not_lt, Int.not_le, Bool.not_eq_true, Bool.not_eq_false, Decidable.not_not, not_true_eq_false, not_false_eq_true, Bool.true_eq_false, Bool.false_eq_true] at c2) <;> (first | (exfalso; omega) | ((with_reducible refine hJ _ _ _ _ ?_); conv => whnf) | (conv => whnf))
      refine s_m_fewestOf hC (m0_sh hm sc1) ⟨hw, hw67⟩ (by omega) ?_
      intro σ2 f1
      rw [hf, show opI none = -1 from rfl]
      conv => whnf
      refine ⟨fun c4 => ?_, fun c4 => ?_⟩ <;> (try simp (disch := omega) only [oi_le, oi_lt, oi_eq, oi_lt0, oi_le0, oi_0lt, oi_0le, oi_eq0, oi_eq1, bI_eq0, bI_ne0, bI_eq1, decide_eq_true_eq, decide_eq_false_iff_not, lc_lt, lc_gt, lc_eq, lc_ge, lc_le, ol_lt, ol_eq, ne_eq, Int.not_lt, Int.not_le, Bool.not_eq_true, Bool.not_eq_false, Decidable.not_not, not_true_eq_false, not_false_eq_true, Bool.true_eq_false, Bool.false_eq_true] at c4) <;> (first | (exfalso; omega) | ((with_reducible refine hJ _ _ _ _ ?_); conv => whnf) | (conv => whnf))
      refine s_m_refuse hC ?_
      conv => whnf
      refine hJ _ _ _ _ ?_
      conv => whnf
      have dn := done3 (sc_hc g1).1 (sc_hc g1).2 f1 tS_k tS_16
      exact h _ _ dn.1 dn.2
    | some t =>
      have ht := few_lt hf (by omega)
      rw [show opI (some t) = (t : Int) from rfl]
      refine ⟨fun c3 => ?_, fun c3 => ?_⟩ <;> (try simp (disch := omega) only [oi_le, oi_lt, oi_eq, oi_lt0, oi_le0, oi_0lt, oi_0le, oi_eq0, oi_eq1, bI_eq0, bI_ne0, bI_eq1, decide_eq_true_eq, decide_eq_false_iff_not, lc_lt, lc_gt, lc_eq, lc_ge, lc_le, ol_lt, ol_eq, ne_eq, Int.not_lt, Int.not_le, Bool.not_eq_true, Bool.not_eq_false, Decidable.not_not, not_true_eq_false, not_false_eq_true, Bool.true_eq_false, Bool.false_eq_true] at c3) <;> (first | (exfalso; omega) | ((with_reducible refine hJ _ _ _ _ ?_); conv => whnf) | (conv => whnf))
      refine s_bitCount hC ht ?_
      conv => whnf
      refine s_give hC ?_
      conv => whnf
      refine hJ _ _ _ _ ?_
      conv => whnf
      refine r_m_fewest hC (fun J hJ => ?_)
      refine hJ _ _ _ _ ?_
      conv => whnf
      refine s_m_isShort hC (by omega) (by omega) ?_
      conv => whnf
      refine ⟨fun c2 => ?_, fun c2 => ?_⟩ <;> (try simp (disch := omega) only [oi_le, oi_lt, oi_eq, oi_lt0, oi_le0, oi_0lt, oi_0le, oi_eq0, oi_eq1, bI_eq0, bI_ne0, bI_eq1, decide_eq_true_eq, decide_eq_false_iff_not, lc_lt, lc_gt, lc_eq, lc_ge, lc_le, ol_lt, ol_eq, ne_eq, Int.not_lt, Int.not_le, Bool.not_eq_true, Bool.not_eq_false, Decidable.not_not, not_true_eq_false, not_false_eq_true, Bool.true_eq_false, Bool.false_eq_true] at c2) <;> (first | (exfalso; omega) | ((with_reducible refine hJ _ _ _ _ ?_); conv => whnf) | (conv => whnf))
      refine s_m_fewestOf hC (m0_sh hm sc1) ⟨hw, hw67⟩ (by omega) ?_
      intro σ2 f1
      rw [hf, show opI (some t) = (t : Int) from rfl]
      conv => whnf
      refine ⟨fun c4 => ?_, fun c4 => ?_⟩ <;> (try simp (disch := omega) only [oi_le, oi_lt, oi_eq, oi_lt0, oi_le0, oi_0lt, oi_0le, oi_eq0, oi_eq1, bI_eq0, bI_ne0, bI_eq1, decide_eq_true_eq, decide_eq_false_iff_not, lc_lt, lc_gt, lc_eq, lc_ge, lc_le, ol_lt, ol_eq, ne_eq, Int.not_lt, Int.not_le, Bool.not_eq_true, Bool.not_eq_false, Decidable.not_not, not_true_eq_false, not_false_eq_true, Bool.true_eq_false, Bool.false_eq_true] at c4) <;> (first | (exfalso; omega) | ((with_reducible refine hJ _ _ _ _ ?_); conv => whnf) | (conv => whnf))
      refine s_m_bits hC ht ?_
      conv => whnf
      refine s_m_gives hC ?_
      conv => whnf
      refine hJ _ _ _ _ ?_
      conv => whnf
      have dn := done3 (sc_hc g1).1 (sc_hc g1).2 f1 tS_k tS_16
      exact h _ _ dn.1 dn.2
  · refine s_none hC ?_
    conv => whnf
    refine r_m_fewest hC (fun J hJ => ?_)
    refine hJ _ _ _ _ ?_
    conv => whnf
    refine s_m_isShort hC (by omega) (by omega) ?_
    conv => whnf
    refine ⟨fun c2 => ?_, fun c2 => ?_⟩ <;> (try simp (disch := omega) only [oi_le, oi_lt, oi_eq, oi_lt0, oi_le0, oi_0lt, oi_0le, oi_eq0, oi_eq1, bI_eq0, bI_ne0, bI_eq1, decide_eq_true_eq, decide_eq_false_iff_not, lc_lt, lc_gt, lc_eq, lc_ge, lc_le, ol_lt, ol_eq, ne_eq, Int.not_lt, Int.not_le, Bool.not_eq_true, Bool.not_eq_false, Decidable.not_not, not_true_eq_false, not_false_eq_true, Bool.true_eq_false, Bool.false_eq_true] at c2) <;> (first | (exfalso; omega) | ((with_reducible refine hJ _ _ _ _ ?_); conv => whnf) | (conv => whnf))
    refine s_m_refuse hC ?_
    conv => whnf
    exact h _ _ done2.1 done2.2
