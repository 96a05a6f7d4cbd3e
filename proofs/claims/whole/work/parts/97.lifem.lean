def MSt (σ : AM) (s : Nat) (d : Nat → Nat → Int) : Prop := s ≤ 60 ∧ ∀ k, k < s → ∀ j, j < 6 → σ.1 47 0 (97 + 6 * k + j) = Int32.ofInt (d k j)
def RaN (σ : AM) (h0 h : Nat → Int) : Prop := σ.1 65 0 1 = Int32.ofInt (h 5 - h0 5) ∧ σ.1 65 0 2 = Int32.ofInt (h 6 - h0 6) ∧ σ.1 65 0 3 = Int32.ofInt (h 7 - h0 7)
def dmS (t q j : Nat) : Prop := q = 0 ∧ ((t = 47 ∧ j < 97) ∨ (t = 46 ∧ (j = 24 ∨ j = 25 ∨ j = 26 ∨ j = 40)) ∨ (t = 65 ∧ 1 ≤ j ∧ j ≤ 3))
theorem RaN.cg {σ σ' : AM} {h0 h h' : Nat → Int} (hr : RaN σ h0 h) (e : ∀ j, σ'.1 65 0 j = σ.1 65 0 j) (e5 : h' 5 = h 5) (e6 : h' 6 = h 6) (e7 : h' 7 = h 7) : RaN σ' h0 h' := by
  unfold RaN at hr ⊢
  rw [e, e, e, e5, e6, e7]
  exact hr
theorem s_m_draw {CALL : CT} (hC : RuleAll CALL) {r : Nat} {σ : AM} {K : AV → AM → Prop} {g m : Int} (h3 : σ.1 46 0 40 = Int32.ofInt g) (g0 : 0 ≤ g) (g1 : g < 65536) (m0 : 0 < m) (m1 : m ≤ 8) (h : K (.inl (Int32.ofInt (drw g / 8 % m))) (wI σ 46 0 40 (Int32.ofInt (drw g)))) : CALL (r + 1) n_m_draw [.inr (.inr (46, 0)), .inl (Int32.ofInt m)] σ K := by
  refine r_m_draw hC (fun J hJ => ?_)
  refine hJ _ _ _ _ ?_
  conv => whnf
  have db := drw_bd (g := g)
  rw [h3, oi_mul, oi_add]
  refine ⟨by decide, ?_⟩
  conv => whnf
  rw [oi_mod (by omega) (by omega) (by omega) (by omega), wI_16]
  refine ⟨by decide, ?_⟩
  conv => whnf
  rw [show (g * 3119 + 11329) % ((65536 : Nat) : Int) = drw g from rfl, oi_div (by omega) (by omega) (by omega) (by omega)]
  refine ⟨fun z => by rw [oi_eq0 (by omega) (by omega)] at z; omega, ?_⟩
  conv => whnf
  rw [oi_mod (by omega) (by omega) (by omega) (by omega)]
  exact h
theorem s_m_coughsAny {CALL : CT} (hC : RuleAll CALL) {r : Nat} {σ : AM} {K : AV → AM → Prop} {S : DS} (hm : M0 σ S.1) (hw : WF S.1) (g3 : σ.1 46 0 40 = Int32.ofInt S.2.1) (g0 : 0 ≤ S.2.1) (g1 : S.2.1 < 65536) (h1 : S.1 1 = 0 → K (.inl (bI false)) σ) (h2 : S.1 1 ≠ 0 → ∀ σ' : AM, M0 σ' (up S.1 (24 + 7 * (drw S.2.1 / 8 % S.1 1).toNat) (max 0 (S.1 (24 + 7 * (drw S.2.1 / 8 % S.1 1).toNat) - drw (drw S.2.1) / 8 % 8))) → σ'.1 46 0 40 = Int32.ofInt (drw (drw S.2.1)) → Ch (fun t p j => p = 0 ∧ ((t = 47 ∧ j < 97) ∨ (t = 46 ∧ j = 40))) σ σ' → K (.inl (bI true)) σ') : CALL (r + 2) n_m_coughsAny [.inr (.inr (46, 0))] σ K := by
  refine r_m_coughsAny hC (fun J hJ => ?_)
  refine hJ _ _ _ _ ?_
  conv => whnf
  have b := hw.1
  refine ⟨(oi_in (by omega) (by omega)).mpr ⟨by omega, by omega⟩, ?_⟩
  conv => whnf
  rw [show (Int32.ofInt 1).toNatClampNeg = 1 from rfl, hm 1 (by omega)]
  refine ⟨fun c => ?_, fun c => ?_⟩ <;> (try simp (disch := omega) only [oi_le, oi_lt, oi_eq, oi_lt0, oi_le0, oi_0lt, oi_0le, oi_eq0, oi_eq1, bI_eq0, bI_ne0, bI_eq1, decide_eq_true_eq, decide_eq_false_iff_not, lc_lt, lc_gt, lc_eq, lc_ge, lc_le, ol_lt, ol_eq, ne_eq, Int.not_lt, Int.not_le, Bool.not_eq_true, Bool.not_eq_false, Decidable.not_not, not_true_eq_false, not_false_eq_true, Bool.true_eq_false, Bool.false_eq_true] at c) <;> (first | (exfalso; omega) | ((with_reducible refine hJ _ _ _ _ ?_); conv => whnf) | (conv => whnf))
  · have d1 := drw_bd (g := S.2.1)
    have d2 := drw_bd (g := drw S.2.1)
    have m1 := Int.emod_nonneg (drw S.2.1 / 8) (by omega : S.1 1 ≠ 0)
    have m2 := Int.emod_lt_of_pos (drw S.2.1 / 8) (by omega : 0 < S.1 1)
    have mm : (((drw S.2.1 / 8 % S.1 1).toNat : Nat) : Int) < S.1 1 := by omega
    have hq := hw.2.2.1 _ mm
    have n1 := Int.emod_nonneg (drw (drw S.2.1) / 8) (by decide : (8 : Int) ≠ 0)
    have n2 := Int.emod_lt_of_pos (drw (drw S.2.1) / 8) (by decide : (0 : Int) < 8)
    refine ⟨(oi_in (by omega) (by omega)).mpr ⟨by omega, by omega⟩, ?_⟩
    conv => whnf
    rw [show (Int32.ofInt 1).toNatClampNeg = 1 from rfl, hm 1 (by omega)]
    refine s_m_draw hC g3 g0 g1 (by omega) (by omega) ?_
    conv => whnf
    refine s_m_monkRow hC ?_
    conv => whnf
    refine ⟨(oi_in (by omega) (by omega)).mpr ⟨by omega, by omega⟩, ?_⟩
    conv => whnf
    rw [oi_nat (by omega) (by omega), show (24 + 7 * (drw S.2.1 / 8 % S.1 1)).toNat = 24 + 7 * (drw S.2.1 / 8 % S.1 1).toNat by omega, wI1, if_neg (by omega), hm _ (by omega)]
    refine s_m_draw hC (g := drw S.2.1) wI_16 d1.1 d1.2 (by omega) (by omega) ?_
    conv => whnf
    rw [oi_sub]
    refine s_maxI hC (by omega) (by omega) (by omega) (by omega) ?_
    conv => whnf
    refine ⟨(oi_in (by omega) (by omega)).mpr ⟨by omega, by omega⟩, ?_⟩
    conv => whnf
    rw [oi_nat (by omega) (by omega), show (24 + 7 * (drw S.2.1 / 8 % S.1 1)).toNat = 24 + 7 * (drw S.2.1 / 8 % S.1 1).toNat by omega]
    refine ⟨Or.inr rfl, ?_⟩
    exact h2 (by omega) _ (M0.upd hm.fd.fd) (by rw [wI1, if_neg (by omega), wI_16]) (((Ch.wI ⟨rfl, Or.inr ⟨rfl, rfl⟩⟩).tr (Ch.wI ⟨rfl, Or.inr ⟨rfl, rfl⟩⟩)).tr (Ch.wI ⟨rfl, Or.inl ⟨rfl, by omega⟩⟩))
  · exact ⟨Or.inl rfl, h1 (by omega)⟩
theorem s_m_minutesBy {CALL : CT} (hC : RuleAll CALL) {r : Nat} {σ : AM} {K : AV → AM → Prop} {h0 h1 : Nat → Int} {n : Nat} (hm : M0 σ h1) (hw : WP h1) (h59 : h1 5 ≤ 9999) (n60 : n ≤ 60) (rn : RaN σ h0 h1) (k1 : 9999 < h1 5 + n → K (.inl (bI false)) σ) (k2 : ¬ 9999 < h1 5 + n → ∀ σ' : AM, M0 σ' (minN n h1) → RaN σ' h0 (minN n h1) → Ch dmS σ σ' → σ'.1 46 0 40 = σ.1 46 0 40 → K (.inl (bI true)) σ') : CALL (r + 8) n_m_minutesBy [.inr (.inr (46, 0)), .inl (Int32.ofInt n)] σ K := by
  refine r_m_minutesBy hC (fun J hJ => ?_)
  refine hJ _ _ _ _ ?_
  conv => whnf
  have b := hw.1.1
  refine ⟨(oi_in (by omega) (by omega)).mpr ⟨by omega, by omega⟩, ?_⟩
  conv => whnf
  rw [show (Int32.ofInt 5).toNatClampNeg = 5 from rfl, hm 5 (by omega)]
  rw [oi_add]
  refine ⟨fun c => ?_, fun c => ?_⟩ <;> (try simp (disch := omega) only [oi_le, oi_lt, oi_eq, oi_lt0, oi_le0, oi_0lt, oi_0le, oi_eq0, oi_eq1, bI_eq0, bI_ne0, bI_eq1, decide_eq_true_eq, decide_eq_false_iff_not, lc_lt, lc_gt, lc_eq, lc_ge, lc_le, ol_lt, ol_eq, ne_eq, Int.not_lt, Int.not_le, Bool.not_eq_true, Bool.not_eq_false, Decidable.not_not, not_true_eq_false, not_false_eq_true, Bool.true_eq_false, Bool.false_eq_true] at c) <;> (first | (exfalso; omega) | ((with_reducible refine hJ _ _ _ _ ?_); conv => whnf) | (conv => whnf))
  · have wk := minN_WF n hw (by omega)
    obtain ⟨n1, n2, n3⟩ := id rn
    refine ⟨(oi_in (by omega) (by omega)).mpr ⟨by omega, by omega⟩, ?_⟩
    conv => whnf
    rw [show (Int32.ofInt 7).toNatClampNeg = 7 from rfl, hm 7 (by omega)]
    refine ⟨(oi_in (by omega) (by omega)).mpr ⟨by omega, by omega⟩, ?_⟩
    conv => whnf
    rw [show (Int32.ofInt 2).toNatClampNeg = 2 from rfl, n2]
    refine s_m_minutesGo hC hm hw (by omega) (fun σ2 f1 f2 => ?_)
    have c2 := f2.ch
    conv => whnf
    rw [oi_add]
    refine ⟨(oi_in (by omega) (by omega)).mpr ⟨by omega, by omega⟩, ?_⟩
    conv => whnf
    refine ⟨(oi_in (by omega) (by omega)).mpr ⟨by omega, by omega⟩, ?_⟩
    conv => whnf
    rw [show (Int32.ofInt 2).toNatClampNeg = 2 from rfl, show (Int32.ofInt 1).toNatClampNeg = 1 from rfl, wI1, if_neg (by omega), c2.1 65 0 1 (by unfold mS; omega), n1, oi_add]
    refine ⟨(oi_in (by omega) (by omega)).mpr ⟨by omega, by omega⟩, ?_⟩
    conv => whnf
    refine ⟨(oi_in (by omega) (by omega)).mpr ⟨by omega, by omega⟩, ?_⟩
    conv => whnf
    rw [show (Int32.ofInt 3).toNatClampNeg = 3 from rfl, show (Int32.ofInt 7).toNatClampNeg = 7 from rfl, wI1, if_neg (by omega), wI1, if_neg (by omega), f1 7 (by omega), wI1, if_neg (by omega), wI1, if_neg (by omega), c2.1 65 0 3 (by unfold mS; omega), n3]
    refine ⟨(oi_in (by omega) (by omega)).mpr ⟨by omega, by omega⟩, ?_⟩
    conv => whnf
    rw [oi_sub, oi_add]
    refine ⟨(oi_in (by omega) (by omega)).mpr ⟨by omega, by omega⟩, ?_⟩
    conv => whnf
    rw [show (Int32.ofInt 3).toNatClampNeg = 3 from rfl]
    refine ⟨Or.inr rfl, ?_⟩
    refine k2 (by omega) _ ?_ ⟨?_, ?_, ?_⟩ ((c2.mo (fun t q j z => ?_)).tr (((Ch.wI ⟨rfl, Or.inr (Or.inr ⟨rfl, by omega, by omega⟩)⟩).tr (Ch.wI ⟨rfl, Or.inr (Or.inr ⟨rfl, by omega, by omega⟩)⟩)).tr (Ch.wI ⟨rfl, Or.inr (Or.inr ⟨rfl, by omega, by omega⟩)⟩))) ?_
    · exact f1.fr (fun j hj => by rw [wI1, if_neg (by omega), wI1, if_neg (by omega), wI1, if_neg (by omega)])
    · rw [wI1, if_neg (by omega), wI_16, wk.2]
      congr 1
      omega
    · rw [wI1, if_neg (by omega), wI1, if_neg (by omega), wI_16]
      congr 1
      omega
    · rw [wI_16]
      congr 1
      omega
    · unfold mS at z; unfold dmS; omega
    · rw [wI1, if_neg (by omega), wI1, if_neg (by omega), wI1, if_neg (by omega), c2.1 46 0 40 (by unfold mS; omega)]
  · exact ⟨Or.inl rfl, k1 (by omega)⟩
theorem s_m_holds {CALL : CT} (hC : RuleAll CALL) {r : Nat} {σ : AM} {K : AV → AM → Prop} {s k : Nat} {d : Nat → Nat → Int} {h1 : Nat → Int} {a b : Int} (hm : M0 σ h1) (hw : WF h1) (ms : MSt σ s d) (hf : StepOk a b (d k)) (ea : h1 0 = a) (eb : h1 1 = b) (hk : k < s) (hwh : 1600 ≤ d k 0) (h : K (.inl (bI (holdS (d k) h1))) σ) : CALL (r + 3) n_m_holds [.inr (.inr (46, 0)), .inl (Int32.ofInt ((97 + 6 * k : Nat) : Int))] σ K := by
  refine r_m_holds hC (fun J hJ => ?_)
  refine hJ _ _ _ _ ?_
  conv => whnf
  have bb := hw.1
  have s60 := ms.1
  have hf4 := hf.wh hwh
  clear hf
  have m0 : σ.1 47 0 (97 + 6 * k) = Int32.ofInt (d k 0) := ms.2 k hk 0 (by omega)
  have m1 : σ.1 47 0 (97 + 6 * k + 1) = Int32.ofInt (d k 1) := ms.2 k hk 1 (by omega)
  have m2 : σ.1 47 0 (97 + 6 * k + 2) = Int32.ofInt (d k 2) := ms.2 k hk 2 (by omega)
  have m5 : σ.1 47 0 (97 + 6 * k + 5) = Int32.ofInt (d k 5) := ms.2 k hk 5 (by omega)
  have t1 : ∀ c : Nat, c < 6 → vp_in (Int32.ofInt ((97 + 6 * k : Nat) : Int) + Int32.ofInt (c : Int)) 3372 ∧ (Int32.ofInt ((97 + 6 * k : Nat) : Int) + Int32.ofInt (c : Int)).toNatClampNeg = 97 + 6 * k + c := by
    intro c hc
    rw [oi_add]
    refine ⟨(oi_in (by omega) (by omega)).mpr ⟨by omega, by omega⟩, ?_⟩
    rw [oi_nat (by omega) (by omega)]
    omega
  have n1 : (Int32.ofInt ((97 + 6 * k : Nat) : Int) + Int32.ofInt 1).toNatClampNeg = 97 + 6 * k + 1 := (t1 1 (by omega)).2
  have n2 : (Int32.ofInt ((97 + 6 * k : Nat) : Int) + Int32.ofInt 2).toNatClampNeg = 97 + 6 * k + 2 := (t1 2 (by omega)).2
  have n5 : (Int32.ofInt ((97 + 6 * k : Nat) : Int) + Int32.ofInt 5).toNatClampNeg = 97 + 6 * k + 5 := (t1 5 (by omega)).2
  -- a number against another
  have cmp : ∀ v : Int, 0 ≤ v → v ≤ 100000 → 0 ≤ d k 2 → d k 2 ≤ 100000 → sgOk (d k 5) → holdS (d k) h1 = cmpS (d k 5) v (d k 2) → ∀ x2 x3 : AV, J 100 [.inr (.inr (46, 0)), .inl (Int32.ofInt ((97 + 6 * k : Nat) : Int)), x2, x3] [.inl (Int32.ofInt v)] σ := by
    intro v v0 v1 w0 w1 hs eh x2 x3
    rw [eh] at h
    unfold sgOk at hs
    unfold cmpS at h
    have f184 : ∀ (bo : Bool), K (.inl (bI bo)) σ → ∀ x2 x3 : AV, J 184 [.inr (.inr (46, 0)), .inl (Int32.ofInt ((97 + 6 * k : Nat) : Int)), x2, x3] [.inl (bI bo)] σ := by
      intro bo hb x2 x3
      refine hJ _ _ _ _ ?_
      conv => whnf
      exact ⟨bI_01 _, hb⟩
    refine hJ _ _ _ _ ?_
    conv => whnf
    refine ⟨(t1 5 (by omega)).1, ?_⟩
    conv => whnf
    rw [n5, m5]
    refine ⟨fun c => ?_, fun c => ?_⟩ <;> (try simp (disch := omega) only [oi_le, oi_lt, oi_eq, oi_lt0, oi_le0, oi_0lt, oi_0le, oi_eq0, oi_eq1, bI_eq0, bI_ne0, bI_eq1, decide_eq_true_eq, decide_eq_false_iff_not, lc_lt, lc_gt, lc_eq, lc_ge, lc_le, ol_lt, ol_eq, ne_eq, Int.not_lt, Int.not_le, Bool.not_eq_true, Bool.not_eq_false, Decidable.not_not, not_true_eq_false, not_false_eq_true, Bool.true_eq_false, Bool.false_eq_true] at c) <;> (first | (exfalso; omega) | ((fail_if_success with_reducible refine hJ _ _ _ _ ?_); conv => whnf) | skip)
    · refine hJ _ _ _ _ ?_
      conv => whnf
      refine ⟨(t1 5 (by omega)).1, ?_⟩
      conv => whnf
      rw [n5, m5]
      rw [if_neg (by omega)] at h
      refine ⟨fun c2 => ?_, fun c2 => ?_⟩ <;> (try simp (disch := omega) only [oi_le, oi_lt, oi_eq, oi_lt0, oi_le0, oi_0lt, oi_0le, oi_eq0, oi_eq1, bI_eq0, bI_ne0, bI_eq1, decide_eq_true_eq, decide_eq_false_iff_not, lc_lt, lc_gt, lc_eq, lc_ge, lc_le, ol_lt, ol_eq, ne_eq, Int.not_lt, Int.not_le, Bool.not_eq_true, Bool.not_eq_false, Decidable.not_not, not_true_eq_false, not_false_eq_true, Bool.true_eq_false, Bool.false_eq_true] at c2) <;> (first | (exfalso; omega) | ((fail_if_success with_reducible refine hJ _ _ _ _ ?_); conv => whnf) | skip)
      · rw [if_neg (by omega)] at h
        refine hJ _ _ _ _ ?_
        conv => whnf
        refine ⟨(t1 2 (by omega)).1, ?_⟩
        conv => whnf
        rw [n2, m2]
        refine ⟨fun c3 => ?_, fun c3 => ?_⟩ <;> (try simp (disch := omega) only [oi_le, oi_lt, oi_eq, oi_lt0, oi_le0, oi_0lt, oi_0le, oi_eq0, oi_eq1, bI_eq0, bI_ne0, bI_eq1, decide_eq_true_eq, decide_eq_false_iff_not, lc_lt, lc_gt, lc_eq, lc_ge, lc_le, ol_lt, ol_eq, ne_eq, Int.not_lt, Int.not_le, Bool.not_eq_true, Bool.not_eq_false, Decidable.not_not, not_true_eq_false, not_false_eq_true, Bool.true_eq_false, Bool.false_eq_true] at c3) <;> (first | (exfalso; omega) | ((fail_if_success with_reducible refine hJ _ _ _ _ ?_); conv => whnf) | skip)
        · refine hJ _ _ _ _ ?_
          conv => whnf
          rw [decide_eq_false c3] at h
          exact f184 false h _ _
        · rw [decide_eq_true c3] at h
          exact f184 true h _ _
      · rw [if_pos (by omega)] at h
        refine ⟨(t1 2 (by omega)).1, ?_⟩
        conv => whnf
        rw [n2, m2]
        refine ⟨fun c3 => ?_, fun c3 => ?_⟩ <;> (try simp (disch := omega) only [oi_le, oi_lt, oi_eq, oi_lt0, oi_le0, oi_0lt, oi_0le, oi_eq0, oi_eq1, bI_eq0, bI_ne0, bI_eq1, decide_eq_true_eq, decide_eq_false_iff_not, lc_lt, lc_gt, lc_eq, lc_ge, lc_le, ol_lt, ol_eq, ne_eq, Int.not_lt, Int.not_le, Bool.not_eq_true, Bool.not_eq_false, Decidable.not_not, not_true_eq_false, not_false_eq_true, Bool.true_eq_false, Bool.false_eq_true] at c3) <;> (first | (exfalso; omega) | ((fail_if_success with_reducible refine hJ _ _ _ _ ?_); conv => whnf) | skip)
        · refine hJ _ _ _ _ ?_
          conv => whnf
          rw [decide_eq_false (by omega)] at h
          exact f184 false h _ _
        · rw [decide_eq_true (by omega)] at h
          exact f184 true h _ _
    · rw [if_pos (by omega)] at h
      refine ⟨(t1 2 (by omega)).1, ?_⟩
      conv => whnf
      rw [n2, m2]
      refine ⟨fun c3 => ?_, fun c3 => ?_⟩ <;> (try simp (disch := omega) only [oi_le, oi_lt, oi_eq, oi_lt0, oi_le0, oi_0lt, oi_0le, oi_eq0, oi_eq1, bI_eq0, bI_ne0, bI_eq1, decide_eq_true_eq, decide_eq_false_iff_not, lc_lt, lc_gt, lc_eq, lc_ge, lc_le, ol_lt, ol_eq, ne_eq, Int.not_lt, Int.not_le, Bool.not_eq_true, Bool.not_eq_false, Decidable.not_not, not_true_eq_false, not_false_eq_true, Bool.true_eq_false, Bool.false_eq_true] at c3) <;> (first | (exfalso; omega) | ((fail_if_success with_reducible refine hJ _ _ _ _ ?_); conv => whnf) | skip)
      · refine hJ _ _ _ _ ?_
        conv => whnf
        rw [decide_eq_false (by omega)] at h
        exact f184 false h _ _
      · rw [decide_eq_true (by omega)] at h
        exact f184 true h _ _
  refine ⟨(oi_in (by omega) (by omega)).mpr ⟨by omega, by omega⟩, ?_⟩
  conv => whnf
  rw [oi_nat (by omega) (by omega), Int.toNat_natCast, m0, oi_sub]
  rcases hf4 with ⟨e8, f1, f2⟩ | ⟨e8, f1, f2⟩ | ⟨e8, f1, f2, f3, f4, f5⟩ | ⟨e8, f1, f2, f3⟩
  · have eh : holdS (d k) h1 = decide (h1 8 = d k 1) := by unfold holdS; rw [if_pos e8]
    rw [eh] at h
    rw [e8]
    refine ⟨fun c => absurd (by decide) c, fun _ => ?_⟩
    conv => whnf
    refine ⟨(oi_in (by omega) (by omega)).mpr ⟨by omega, by omega⟩, ?_⟩
    conv => whnf
    rw [show (Int32.ofInt 8).toNatClampNeg = 8 from rfl, hm 8 (by omega)]
    refine ⟨(t1 1 (by omega)).1, ?_⟩
    conv => whnf
    rw [n1, m1]
    refine ⟨fun c => ?_, fun c => ?_⟩ <;> (try simp (disch := omega) only [oi_le, oi_lt, oi_eq, oi_lt0, oi_le0, oi_0lt, oi_0le, oi_eq0, oi_eq1, bI_eq0, bI_ne0, bI_eq1, decide_eq_true_eq, decide_eq_false_iff_not, lc_lt, lc_gt, lc_eq, lc_ge, lc_le, ol_lt, ol_eq, ne_eq, Int.not_lt, Int.not_le, Bool.not_eq_true, Bool.not_eq_false, Decidable.not_not, not_true_eq_false, not_false_eq_true, Bool.true_eq_false, Bool.false_eq_true] at c) <;> (first | (exfalso; omega) | ((with_reducible refine hJ _ _ _ _ ?_); conv => whnf) | (conv => whnf))
    · refine hJ _ _ _ _ ?_
      conv => whnf
      rw [decide_eq_false c] at h
      exact ⟨Or.inl rfl, h⟩
    · refine hJ _ _ _ _ ?_
      conv => whnf
      rw [decide_eq_true c] at h
      exact ⟨Or.inr rfl, h⟩
  · have eh : holdS (d k) h1 = decide (h1 9 = d k 1) := by unfold holdS; rw [if_neg (by omega), if_pos e8]
    rw [eh] at h
    rw [e8]
    refine ⟨fun _ => ?_, fun c => absurd c (by decide)⟩
    refine hJ _ _ _ _ ?_
    conv => whnf
    refine ⟨fun c => absurd (by decide) c, fun _ => ?_⟩
    conv => whnf
    refine ⟨(oi_in (by omega) (by omega)).mpr ⟨by omega, by omega⟩, ?_⟩
    conv => whnf
    rw [show (Int32.ofInt 9).toNatClampNeg = 9 from rfl, hm 9 (by omega)]
    refine ⟨(t1 1 (by omega)).1, ?_⟩
    conv => whnf
    rw [n1, m1]
    refine ⟨fun c => ?_, fun c => ?_⟩ <;> (try simp (disch := omega) only [oi_le, oi_lt, oi_eq, oi_lt0, oi_le0, oi_0lt, oi_0le, oi_eq0, oi_eq1, bI_eq0, bI_ne0, bI_eq1, decide_eq_true_eq, decide_eq_false_iff_not, lc_lt, lc_gt, lc_eq, lc_ge, lc_le, ol_lt, ol_eq, ne_eq, Int.not_lt, Int.not_le, Bool.not_eq_true, Bool.not_eq_false, Decidable.not_not, not_true_eq_false, not_false_eq_true, Bool.true_eq_false, Bool.false_eq_true] at c) <;> (first | (exfalso; omega) | ((with_reducible refine hJ _ _ _ _ ?_); conv => whnf) | (conv => whnf))
    · refine hJ _ _ _ _ ?_
      conv => whnf
      rw [decide_eq_false c] at h
      exact ⟨Or.inl rfl, h⟩
    · refine hJ _ _ _ _ ?_
      conv => whnf
      rw [decide_eq_true c] at h
      exact ⟨Or.inr rfl, h⟩
  · have eh : holdS (d k) h1 = cmpS (d k 5) (h1 (24 + 7 * (d k 1).toNat)) (d k 2) := by unfold holdS; rw [if_neg (by omega), if_neg (by omega), if_pos e8]
    obtain ⟨m, em⟩ : ∃ m : Nat, d k 1 = (m : Int) := ⟨(d k 1).toNat, by omega⟩
    have hq := hw.2.2.1 m (by omega)
    rw [em, Int.toNat_natCast] at eh
    rw [e8]
    refine ⟨fun _ => ?_, fun c => absurd c (by decide)⟩
    refine hJ _ _ _ _ ?_
    conv => whnf
    refine ⟨fun _ => ?_, fun c => absurd c (by decide)⟩
    refine hJ _ _ _ _ ?_
    conv => whnf
    refine ⟨fun c => absurd (by decide) c, fun _ => ?_⟩
    conv => whnf
    refine ⟨(t1 1 (by omega)).1, ?_⟩
    conv => whnf
    rw [n1, m1, em]
    refine s_m_monkOf hC (w := 0) hm (by omega) (by omega) ?_
    conv => whnf
    rw [show 24 + 7 * m + 0 = 24 + 7 * m by omega]
    exact cmp _ (by omega) (by omega) (by omega) (by omega) f5 eh _ _
  · have eh : holdS (d k) h1 = cmpS (d k 5) (h1 6) (d k 2) := by unfold holdS; rw [if_neg (by omega), if_neg (by omega), if_neg (by omega)]
    rw [e8]
    refine ⟨fun _ => ?_, fun c => absurd c (by decide)⟩
    refine hJ _ _ _ _ ?_
    conv => whnf
    refine ⟨fun _ => ?_, fun c => absurd c (by decide)⟩
    refine hJ _ _ _ _ ?_
    conv => whnf
    refine ⟨fun _ => ?_, fun c => absurd c (by decide)⟩
    refine hJ _ _ _ _ ?_
    conv => whnf
    refine ⟨(oi_in (by omega) (by omega)).mpr ⟨by omega, by omega⟩, ?_⟩
    conv => whnf
    rw [show (Int32.ofInt 6).toNatClampNeg = 6 from rfl, hm 6 (by omega)]
    exact cmp _ (by omega) (by omega) (by omega) (by omega) f3 eh _ _
