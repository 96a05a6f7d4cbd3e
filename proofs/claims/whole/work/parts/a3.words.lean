def kst : Nat → Nat
  | 0 => 1
  | n + 1 => kst n + (keyM.getD n []).length + 1
theorem ks_chr : ∀ n : Fin 23, ∀ i : Fin 8, i.val < (keyM.getD n.val []).length → schr 1 (kst n.val + i.val) = Int32.ofInt ((((keyM.getD n.val []).getD i.val 0 : Nat)) : Int) ∧ (keyM.getD n.val []).getD i.val 0 ≤ 122 ∧ 97 ≤ (keyM.getD n.val []).getD i.val 0 := by decide +kernel
theorem ks_sp : ∀ n : Fin 23, schr 1 (kst n.val + (keyM.getD n.val []).length) = Int32.ofInt 32 ∧ kst n.val + (keyM.getD n.val []).length < 134 := by decide +kernel
theorem ks_23 : kst 23 = 134 := by decide +kernel
theorem ext_getD {a b : List Nat} (hl : a.length = b.length) (h : ∀ i, i < a.length → a.getD i 0 = b.getD i 0) : a = b := by
  apply List.ext_getElem? 
  intro i
  by_cases c : i < a.length
  · have := h i c
    rw [List.getD_eq_getElem?_getD, List.getD_eq_getElem?_getD] at this
    rw [List.getElem?_eq_getElem c, List.getElem?_eq_getElem (by omega)] at this ⊢
    exact congrArg some this
  · rw [List.getElem?_eq_none (by omega), List.getElem?_eq_none (by omega)]
theorem wdT_get (B : Nat → Int) {f e i : Nat} (h : i < e - f) : (wdT B f e).getD i 0 = (B (f + i)).toNat := by
  rw [List.getD_eq_getElem?_getD]
  unfold wdT
  rw [List.getElem?_map, List.getElem?_range h]
  rfl
theorem s_m_inWords {CALL : CT} (hC : RuleAll CALL) {r : Nat} {σ : AM} {K : AV → AM → Prop} {B : Nat → Int} {L f : Nat} (hx : TxM σ B L) (hB : BOk B L) (ht : TM σ B L f) (h : K (.inl (Int32.ofInt (kwT B L f))) σ) : CALL (r + 2) n_m_inWords [.inr (.inr (46, 0)), .inr (.inr (67, 1))] σ K := by
  refine r_m_inWords hC (fun J hJ => ?_)
  refine hJ _ _ _ _ ?_
  conv => whnf
  obtain ⟨fl, t12, t13, t15, t14⟩ := ht
  have hL := hB.1
  have kb := kdT_bd B L f
  have eo := tokE_ok (B := B) fl
  rw [t12]
  refine ⟨fun c => ?_, fun c => ?_⟩ <;> (try simp (disch := omega) only [oi_le, oi_lt, oi_eq, oi_lt0, oi_le0, oi_0lt, oi_0le, oi_eq0, oi_eq1, bI_eq0, bI_ne0, bI_eq1, decide_eq_true_eq, decide_eq_false_iff_not, lc_lt, lc_gt, lc_eq, lc_ge, lc_le, ol_lt, ol_eq, ne_eq, Int.not_lt, Int.not_le, Bool.not_eq_true, Bool.not_eq_false, Decidable.not_not, not_true_eq_false, not_false_eq_true, Bool.true_eq_false, Bool.false_eq_true] at c) <;> (first | (exfalso; omega) | ((with_reducible refine hJ _ _ _ _ ?_); conv => whnf) | (conv => whnf))
  · have kw : kwT B L f = opI (kwI (wdT B f (tokE B L f))) := if_pos c
    rw [kw] at h
    generalize hw : wdT B f (tokE B L f) = w at h
    have wl : w.length = tokE B L f - f := by rw [← hw, wdT_len]
    have wg : ∀ i, i < tokE B L f - f → w.getD i 0 = (B (f + i)).toNat := fun i hi => by rw [← hw, wdT_get B hi]
    have loop : ∀ (d n : Nat) (x4 x5 x6 : AV), n + d = 23 → K (.inl (Int32.ofInt (opI (firstF (fun n => decide (keyM.getD n [] = w)) d n)))) σ → J 14 [.inr (.inr (46, 0)), .inr (.inr (67, 1)), .inl (Int32.ofInt (n : Int)), .inl (Int32.ofInt ((kst n : Nat) : Int)), x4, x5, x6] [] σ := by
      intro d
      induction d with
      | zero =>
        intro n x4 x5 x6 hn hk
        have : n = 23 := by omega
        subst this
        refine hJ _ _ _ _ ?_
        conv => whnf
        rw [ks_23]
        refine ⟨fun _ => ?_, fun z => absurd (Int32.le_refl _) z⟩
        refine hJ _ _ _ _ ?_
        conv => whnf
        exact hk
      | succ d ih =>
        intro n x4 x5 x6 hn hk
        obtain ⟨sp1, sp2⟩ := ks_sp ⟨n, by omega⟩
        have sp1 : schr 1 (kst n + (keyM.getD n []).length) = Int32.ofInt 32 := sp1
        have sp2 : kst n + (keyM.getD n []).length < 134 := sp2
        have kl : (keyM.getD n []).length ≤ 7 := keyM_len ⟨n, by omega⟩
        have kc : ∀ i, i < (keyM.getD n []).length → schr 1 (kst n + i) = Int32.ofInt ((((keyM.getD n []).getD i 0 : Nat)) : Int) ∧ (keyM.getD n []).getD i 0 ≤ 122 ∧ 97 ≤ (keyM.getD n []).getD i 0 := fun i hi => ks_chr ⟨n, by omega⟩ ⟨i, by omega⟩ hi
        generalize hkn : keyM.getD n [] = kn at sp1 sp2 kl kc
        have kn1 : kst (n + 1) = kst n + kn.length + 1 := by rw [kst, hkn]
        rw [firstF, hkn] at hk
        generalize hs : kst n = s0 at sp1 sp2 kc kn1 ⊢
        -- whether it was like
        have at115 : ∀ (bo : Bool) (x6 : AV), bo = decide (kn = w) → J 115 [.inr (.inr (46, 0)), .inr (.inr (67, 1)), .inl (Int32.ofInt (n : Int)), .inl (Int32.ofInt (s0 : Int)), .inl (Int32.ofInt ((s0 + kn.length : Nat) : Int)), .inl (bI bo), x6] [] σ := by
          intro bo x6 hbo
          cases bo with
          | true =>
            rw [← hbo, if_pos rfl] at hk
            refine hJ _ _ _ _ ?_
            conv => whnf
            refine ⟨fun z => absurd z (by decide), fun _ => ?_⟩
            conv => whnf
            exact hk
          | false =>
            rw [← hbo, if_neg (by decide)] at hk
            have nx := ih (n + 1) (.inl (Int32.ofInt ((s0 + kn.length : Nat) : Int))) (.inl (bI false)) x6 (by omega) hk
            rw [kn1] at nx
            refine hJ _ _ _ _ ?_
            conv => whnf
            refine ⟨fun _ => ?_, fun z => absurd rfl z⟩
            refine hJ _ _ _ _ ?_
            conv => whnf
            rw [oi_succ, oi_succ]
            exact nx
        -- letter by letter
        have lett : ∀ (d i : Nat), i + d = kn.length → kn.length = tokE B L f - f → (∀ j, j < i → kn.getD j 0 = w.getD j 0) → J 68 [.inr (.inr (46, 0)), .inr (.inr (67, 1)), .inl (Int32.ofInt (n : Int)), .inl (Int32.ofInt (s0 : Int)), .inl (Int32.ofInt ((s0 + kn.length : Nat) : Int)), .inl (bI true), .inl (Int32.ofInt ((s0 + i : Nat) : Int))] [] σ := by
          intro d
          induction d with
          | zero =>
            intro i hi hlen hall
            refine hJ _ _ _ _ ?_
            conv => whnf
            refine ⟨fun c2 => ?_, fun c2 => ?_⟩ <;> (try simp (disch := omega) only [oi_le, oi_lt, oi_eq, oi_lt0, oi_le0, oi_0lt, oi_0le, oi_eq0, oi_eq1, bI_eq0, bI_ne0, bI_eq1, decide_eq_true_eq, decide_eq_false_iff_not, lc_lt, lc_gt, lc_eq, lc_ge, lc_le, ol_lt, ol_eq, ne_eq, Int.not_lt, Int.not_le, Bool.not_eq_true, Bool.not_eq_false, Decidable.not_not, not_true_eq_false, not_false_eq_true, Bool.true_eq_false, Bool.false_eq_true] at c2) <;> (first | (exfalso; omega) | ((fail_if_success with_reducible refine hJ _ _ _ _ ?_); conv => whnf) | skip)
            exact at115 true _ (decide_eq_true (ext_getD (by omega) (fun j hj => hall j (by omega)))).symm
          | succ d ihd =>
            intro i hi hlen hall
            obtain ⟨q1, q2, q3⟩ := kc i (by omega)
            have wgi := wg i (by omega)
            have bbi := hB.2 (f + i) (by omega)
            refine hJ _ _ _ _ ?_
            conv => whnf
            refine ⟨fun c2 => ?_, fun c2 => ?_⟩ <;> (try simp (disch := omega) only [oi_le, oi_lt, oi_eq, oi_lt0, oi_le0, oi_0lt, oi_0le, oi_eq0, oi_eq1, bI_eq0, bI_ne0, bI_eq1, decide_eq_true_eq, decide_eq_false_iff_not, lc_lt, lc_gt, lc_eq, lc_ge, lc_le, ol_lt, ol_eq, ne_eq, Int.not_lt, Int.not_le, Bool.not_eq_true, Bool.not_eq_false, Decidable.not_not, not_true_eq_false, not_false_eq_true, Bool.true_eq_false, Bool.false_eq_true] at c2) <;> (first | (exfalso; omega) | ((fail_if_success with_reducible refine hJ _ _ _ _ ?_); conv => whnf) | skip)
            refine ⟨fun z => absurd z (by decide), fun _ => ?_⟩
            conv => whnf
            refine ⟨(oi_in (by omega) (by omega)).mpr ⟨by omega, by show ((s0 + i : Nat) : Int) < ((134 : Nat) : Int); omega⟩, ?_⟩
            conv => whnf
            rw [oi_nat (by omega) (by omega), Int.toNat_natCast, q1, t13, oi_add, oi_sub, show (f : Int) + ((s0 + i : Nat) : Int) - (s0 : Int) = ((f + i : Nat) : Int) by omega]
            refine s_m_byteAt hC hx hB (by omega) ?_
            conv => whnf
            rw [btA_lt (by omega)]
            refine ⟨fun c3 => ?_, fun c3 => ?_⟩ <;> (try simp (disch := omega) only [oi_le, oi_lt, oi_eq, oi_lt0, oi_le0, oi_0lt, oi_0le, oi_eq0, oi_eq1, bI_eq0, bI_ne0, bI_eq1, decide_eq_true_eq, decide_eq_false_iff_not, lc_lt, lc_gt, lc_eq, lc_ge, lc_le, ol_lt, ol_eq, ne_eq, Int.not_lt, Int.not_le, Bool.not_eq_true, Bool.not_eq_false, Decidable.not_not, not_true_eq_false, not_false_eq_true, Bool.true_eq_false, Bool.false_eq_true] at c3) <;> (first | (exfalso; omega) | ((fail_if_success with_reducible refine hJ _ _ _ _ ?_); conv => whnf) | skip)
            · -- another letter
              have ne : kn ≠ w := fun z => by rw [z] at c3; omega
              refine hJ _ _ _ _ ?_
              conv => whnf
              refine hJ _ _ _ _ ?_
              conv => whnf
              rw [oi_succ]
              refine hJ _ _ _ _ ?_
              conv => whnf
              refine ⟨fun c4 => ?_, fun c4 => ?_⟩ <;> (try simp (disch := omega) only [oi_le, oi_lt, oi_eq, oi_lt0, oi_le0, oi_0lt, oi_0le, oi_eq0, oi_eq1, bI_eq0, bI_ne0, bI_eq1, decide_eq_true_eq, decide_eq_false_iff_not, lc_lt, lc_gt, lc_eq, lc_ge, lc_le, ol_lt, ol_eq, ne_eq, Int.not_lt, Int.not_le, Bool.not_eq_true, Bool.not_eq_false, Decidable.not_not, not_true_eq_false, not_false_eq_true, Bool.true_eq_false, Bool.false_eq_true] at c4) <;> (first | (exfalso; omega) | ((fail_if_success with_reducible refine hJ _ _ _ _ ?_); conv => whnf) | skip)
              · exact at115 false _ (decide_eq_false ne).symm
              · refine ⟨fun _ => ?_, fun z => absurd rfl z⟩
                exact at115 false _ (decide_eq_false ne).symm
            · refine hJ _ _ _ _ ?_
              conv => whnf
              rw [oi_succ]
              refine ihd (i + 1) (by omega) hlen (fun j hj => ?_)
              by_cases ej : j = i
              · rw [ej]; omega
              · exact hall j (by omega)
        -- to the blank
        have blank : ∀ (d i : Nat) (x5 x6 : AV), i + d = kn.length → J 25 [.inr (.inr (46, 0)), .inr (.inr (67, 1)), .inl (Int32.ofInt (n : Int)), .inl (Int32.ofInt (s0 : Int)), .inl (Int32.ofInt ((s0 + i : Nat) : Int)), x5, x6] [] σ := by
          intro d
          induction d with
          | zero =>
            intro i x5 x6 hi
            have ei : i = kn.length := by omega
            subst ei
            refine hJ _ _ _ _ ?_
            conv => whnf
            refine ⟨(oi_in (by omega) (by omega)).mpr ⟨by omega, by show ((s0 + kn.length : Nat) : Int) < ((134 : Nat) : Int); omega⟩, ?_⟩
            conv => whnf
            rw [oi_nat (by omega) (by omega), Int.toNat_natCast, sp1]
            refine ⟨fun _ => ?_, fun z => absurd rfl z⟩
            refine hJ _ _ _ _ ?_
            conv => whnf
            rw [oi_sub, t14, t13, oi_sub]
            refine ⟨fun c2 => ?_, fun c2 => ?_⟩ <;> (try simp (disch := omega) only [oi_le, oi_lt, oi_eq, oi_lt0, oi_le0, oi_0lt, oi_0le, oi_eq0, oi_eq1, bI_eq0, bI_ne0, bI_eq1, decide_eq_true_eq, decide_eq_false_iff_not, lc_lt, lc_gt, lc_eq, lc_ge, lc_le, ol_lt, ol_eq, ne_eq, Int.not_lt, Int.not_le, Bool.not_eq_true, Bool.not_eq_false, Decidable.not_not, not_true_eq_false, not_false_eq_true, Bool.true_eq_false, Bool.false_eq_true] at c2) <;> (first | (exfalso; omega) | ((fail_if_success with_reducible refine hJ _ _ _ _ ?_); conv => whnf) | skip)
            · refine hJ _ _ _ _ ?_
              conv => whnf
              refine hJ _ _ _ _ ?_
              conv => whnf
              refine hJ _ _ _ _ ?_
              conv => whnf
              have ne : kn ≠ w := fun z => by rw [← z] at wl; omega
              refine ⟨fun c3 => ?_, fun c3 => ?_⟩ <;> (try simp (disch := omega) only [oi_le, oi_lt, oi_eq, oi_lt0, oi_le0, oi_0lt, oi_0le, oi_eq0, oi_eq1, bI_eq0, bI_ne0, bI_eq1, decide_eq_true_eq, decide_eq_false_iff_not, lc_lt, lc_gt, lc_eq, lc_ge, lc_le, ol_lt, ol_eq, ne_eq, Int.not_lt, Int.not_le, Bool.not_eq_true, Bool.not_eq_false, Decidable.not_not, not_true_eq_false, not_false_eq_true, Bool.true_eq_false, Bool.false_eq_true] at c3) <;> (first | (exfalso; omega) | ((fail_if_success with_reducible refine hJ _ _ _ _ ?_); conv => whnf) | skip)
              · exact at115 false _ (decide_eq_false ne).symm
              · refine ⟨fun _ => ?_, fun z => absurd rfl z⟩
                exact at115 false _ (decide_eq_false ne).symm
            · refine hJ _ _ _ _ ?_
              conv => whnf
              exact lett kn.length 0 (by omega) (by omega) (fun j hj => by omega)
          | succ d ihd =>
            intro i x5 x6 hi
            obtain ⟨q1, q2, q3⟩ := kc i (by omega)
            refine hJ _ _ _ _ ?_
            conv => whnf
            refine ⟨(oi_in (by omega) (by omega)).mpr ⟨by omega, by show ((s0 + i : Nat) : Int) < ((134 : Nat) : Int); omega⟩, ?_⟩
            conv => whnf
            rw [oi_nat (by omega) (by omega), Int.toNat_natCast, q1]
            refine ⟨fun c2 => ?_, fun c2 => ?_⟩ <;> (try simp (disch := omega) only [oi_le, oi_lt, oi_eq, oi_lt0, oi_le0, oi_0lt, oi_0le, oi_eq0, oi_eq1, bI_eq0, bI_ne0, bI_eq1, decide_eq_true_eq, decide_eq_false_iff_not, lc_lt, lc_gt, lc_eq, lc_ge, lc_le, ol_lt, ol_eq, ne_eq, Int.not_lt, Int.not_le, Bool.not_eq_true, Bool.not_eq_false, Decidable.not_not, not_true_eq_false, not_false_eq_true, Bool.true_eq_false, Bool.false_eq_true] at c2) <;> (first | (exfalso; omega) | ((fail_if_success with_reducible refine hJ _ _ _ _ ?_); conv => whnf) | skip)
            rw [oi_succ]
            exact ihd (i + 1) _ _ (by omega)
        refine hJ _ _ _ _ ?_
        conv => whnf
        refine ⟨fun z => ?_, fun _ => ?_⟩
        · have : ((slen 1 : Nat) : Int) = 134 := by decide
          rw [this, oi_le (by omega) (by omega) (by omega) (by omega)] at z
          exfalso
          omega
        · conv => whnf
          exact blank kn.length 0 _ _ (by omega)
    exact loop 23 0 _ _ _ (by omega) h
  · have kw : kwT B L f = -1 := if_neg c
    rw [kw] at h
    exact h
