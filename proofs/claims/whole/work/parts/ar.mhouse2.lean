def mHS (t i j : Nat) : Prop := bmS t i j ∨ mnS t i j ∨ (t = 46 ∧ i = 0 ∧ (j = 2 ∨ j = 16)) ∨ (t = 47 ∧ i = 0 ∧ j < 465)
def mHL (t i j : Nat) : Prop := t = 48 ∧ i = 0 ∧ (j < 13 ∨ (52 ≤ j ∧ j < 65))
/-- what the reference holds once a house is read -/
def MHf (σ : AM) (S : PS) : Prop := MRep σ 0 S.2.1 ∧ (∀ t : Nat, (t : Int) < S.2.1 0 → σ.2.1 48 0 t = Int64.ofInt ((enc8 (S.2.2.1 t) : Nat) : Int)) ∧ (∀ m : Nat, (m : Int) < S.2.1 1 → σ.2.1 48 0 (6 + m) = Int64.ofInt ((enc8 (S.2.2.2.1 m) : Nat) : Int)) ∧ (∀ j : Nat, 97 ≤ j → j < 457 → σ.1 47 0 j = Int32.ofInt 0)
theorem m_houseS {CALL : CT} (hC : RuleAll CALL) {r : Nat} {σ : AM} {K : AV → AM → Prop} {B : Nat → Int} {k n : Nat} {z : Int} (z1 : -2147483648 ≤ z) (z2 : z < 2147483648) (h10 : σ.1 46 0 10 = Int32.ofInt (k : Int)) (hk : k ≤ 900) (hB : BOk B n) (hn : 0 ≤ z → z = (n : Int)) (hb : ∀ j, j < n → σ.1 52 0 j = Int32.ofInt (sg8 (B j).toNat)) (h1 : ¬ (0 ≤ z ∧ z ≤ (k : Int)) → K (.inl (Int32.ofInt (-1))) (wI σ 46 0 2 (Int32.ofInt 1))) (h2 : ∀ (S : PS) (σ' : AM), 0 ≤ z → z ≤ (k : Int) → rAll B n 901 (S0 (tokF B n 0)) = .inl S → MHf σ' S → σ'.1 46 0 10 = Int32.ofInt 0 → σ'.1 46 0 16 = Int32.ofInt 0 → σ'.1 46 0 17 = Int32.ofInt (-1) → σ'.1 46 0 2 = Int32.ofInt 0 → ChA mHS mHL σ σ' → K (.inl (Int32.ofInt (S.2.1 1))) σ') (h3 : ∀ (c : Int) (p : Nat) (σ' : AM), 0 ≤ z → z ≤ (k : Int) → rAll B n 901 (S0 (tokF B n 0)) = .inr (c, p) → σ'.1 46 0 10 = Int32.ofInt 0 → σ'.1 46 0 16 = Int32.ofInt c → σ'.1 46 0 17 = Int32.ofInt (p : Int) → σ'.1 46 0 2 = Int32.ofInt 9 → ChA (fun t i j => bmS t i j ∨ mnS t i j ∨ (t = 46 ∧ i = 0 ∧ (j = 2 ∨ j = 16))) mnL σ σ' → K (.inl (Int32.ofInt (-1))) σ') : CALL (r + 8) n_m_house [.inr (.inr (46, 0)), .inl (Int32.ofInt z)] σ K := by
  refine r_m_house hC (fun J hJ => ?_)
  refine hJ _ _ _ _ ?_
  conv => whnf
  refine m_begin hC (most := 900) (by omega) z1 z2 h10 hk hB hn hb (fun y => ?_) (fun y1 y2 y3 σ1 a1 a10 a17 a19 f1 => ?_)
  · conv => whnf
    refine ⟨fun c => ?_, fun c => ?_⟩ <;> (try simp (disch := omega) only [oi_le, oi_lt, oi_eq, oi_lt0, oi_le0, oi_0lt, oi_0le, oi_eq0, oi_eq1, bI_eq0, bI_ne0, bI_eq1, decide_eq_true_eq, decide_eq_false_iff_not, lc_lt, lc_gt, lc_eq, lc_ge, lc_le, ol_lt, ol_eq, ne_eq, Int.not_lt, Int.not_le, Bool.not_eq_true, Bool.not_eq_false, Decidable.not_not, not_true_eq_false, not_false_eq_true, Bool.true_eq_false, Bool.false_eq_true] at c) <;> (first | (exfalso; omega) | ((with_reducible refine hJ _ _ _ _ ?_); conv => whnf) | (conv => whnf))
    refine s_m_refuse hC ?_
    conv => whnf
    exact h1 (by omega)
  · have h2 := fun S σ' => h2 S σ' y1 y2
    have h3 := fun c p σ' => h3 c p σ' y1 y2
    have ez := hn y1
    have hl : n ≤ 900 := hB.1
    conv => whnf
    refine ⟨fun c => ?_, fun c => ?_⟩ <;> (try simp (disch := omega) only [oi_le, oi_lt, oi_eq, oi_lt0, oi_le0, oi_0lt, oi_0le, oi_eq0, oi_eq1, bI_eq0, bI_ne0, bI_eq1, decide_eq_true_eq, decide_eq_false_iff_not, lc_lt, lc_gt, lc_eq, lc_ge, lc_le, ol_lt, ol_eq, ne_eq, Int.not_lt, Int.not_le, Bool.not_eq_true, Bool.not_eq_false, Decidable.not_not, not_true_eq_false, not_false_eq_true, Bool.true_eq_false, Bool.false_eq_true] at c) <;> (first | (exfalso; omega) | ((with_reducible refine hJ _ _ _ _ ?_); conv => whnf) | (conv => whnf))
    refine m_plainS hC (fun σ2 e2 f2 => ?_)
    conv => whnf
    have b31 : ∀ (m : Nat) (S : PS) (σ4 : AM), MR σ4 B n S → PI n S → n ≤ S.1 + m → rAll B n 901 (S0 (tokF B n 0)) = rAll B n m S → σ4.1 46 0 10 = Int32.ofInt 0 → ChA (fun t i j => bmS t i j ∨ mnS t i j) mnL σ σ4 → J 31 [.inr (.inr (46, 0)), .inl (Int32.ofInt z), .inl (Int32.ofInt 1), unset] [] σ4 := by
      intro m
      have b117 : ∀ (S : PS) (σ5 : AM) (v3 : AV), rAll B n 901 (S0 (tokF B n 0)) = .inl S → MHf σ5 S → σ5.1 46 0 10 = Int32.ofInt 0 → σ5.1 46 0 18 = Int32.ofInt 0 → σ5.1 46 0 17 = Int32.ofInt (-1) → ChA mHS mHL σ σ5 → J 117 [.inr (.inr (46, 0)), .inl (Int32.ofInt z), .inl (Int32.ofInt 1), v3] [] σ5 := by
        intro S σ5 v3 hr hf a10 a18 a17 ch
        refine hJ _ _ _ _ ?_
        conv => whnf
        refine ⟨(oi_in (by omega) (by omega)).mpr ⟨by omega, by omega⟩, ?_⟩
        conv => whnf
        rw [show (Int32.ofInt 1).toNatClampNeg = 0 + 1 from rfl, hf.1 1 (by omega)]
        refine m_takenS hC (c := 0) a18 (by omega) (by omega) (fun _ => ?_) (fun y => by omega)
        conv => whnf
        refine h2 S _ hr ⟨fun j hj => ?_, hf.2.1, hf.2.2.1, fun j j1 j2 => ?_⟩ ?_ ?_ ?_ wI_16 ((ch.tr (ChA.wI (Or.inr (Or.inr (Or.inl ⟨rfl, rfl, by omega⟩))))).tr (ChA.wI (Or.inr (Or.inr (Or.inl ⟨rfl, rfl, by omega⟩)))))
        · rw [wI1, if_neg (by omega), wI1, if_neg (by omega)]; exact hf.1 j hj
        · rw [wI1, if_neg (by omega), wI1, if_neg (by omega)]; exact hf.2.2.2 j j1 j2
        · rw [wI1, if_neg (by omega), wI1, if_neg (by omega)]; exact a10
        · rw [wI1, if_neg (by omega), wI_16]
        · rw [wI1, if_neg (by omega), wI1, if_neg (by omega)]; exact a17
      have b50 : ∀ (S : PS) (σ4 : AM), MR σ4 B n S → PI n S → rAll B n 901 (S0 (tokF B n 0)) = .inl S → σ4.1 46 0 10 = Int32.ofInt 0 → ChA (fun t i j => bmS t i j ∨ mnS t i j) mnL σ σ4 → J 50 [.inr (.inr (46, 0)), .inl (Int32.ofInt z), .inl (Int32.ofInt 1), unset] [] σ4 := by
        intro S σ4 hm hp hr a10 ch
        have bS := hp.wf.1
        have l90 : ∀ (m j : Nat) (σ6 : AM), j + m = 13 → (∀ i, i < j → σ6.2.1 48 0 i = σ4.2.1 48 0 (52 + i)) → (∀ i, i < 13 → σ6.2.1 48 0 (52 + i) = σ4.2.1 48 0 (52 + i)) → (∀ i, i < 465 → σ6.1 47 0 i = σ4.1 47 0 (1860 + i)) → ChA (fun t i j => t = 47 ∧ i = 0 ∧ j < 465) (fun t i j => t = 48 ∧ i = 0 ∧ j < 13) σ4 σ6 → J 90 [.inr (.inr (46, 0)), .inl (Int32.ofInt z), .inl (Int32.ofInt 1), .inl (Int32.ofInt (j : Int))] [] σ6 := by
          intro m
          induction m with
          | zero =>
            intro j σ6 hj e1 e2 e3 ch6
            refine hJ _ _ _ _ ?_
            conv => whnf
            refine ⟨fun c5 => ?_, fun c5 => ?_⟩ <;> (try simp (disch := omega) only [oi_le, oi_lt, oi_eq, oi_lt0, oi_le0, oi_0lt, oi_0le, oi_eq0, oi_eq1, bI_eq0, bI_ne0, bI_eq1, decide_eq_true_eq, decide_eq_false_iff_not, lc_lt, lc_gt, lc_eq, lc_ge, lc_le, ol_lt, ol_eq, ne_eq, Int.not_lt, Int.not_le, Bool.not_eq_true, Bool.not_eq_false, Decidable.not_not, not_true_eq_false, not_false_eq_true, Bool.true_eq_false, Bool.false_eq_true] at c5) <;> (first | (exfalso; omega) | ((fail_if_success with_reducible refine hJ _ _ _ _ ?_); conv => whnf) | skip)
            refine b117 S σ6 _ hr ⟨fun i hi => ?_, fun t ht => ?_, fun t ht => ?_, fun i i1 i2 => ?_⟩ ?_ ?_ ?_ ((ch.mo (fun t i j z => z.elim (fun z => Or.inl z) (fun z => Or.inr (Or.inl z))) (fun t i j z => ⟨z.1, z.2.1, Or.inr z.2.2⟩)).tr (ch6.mo (fun t i j z => Or.inr (Or.inr (Or.inr z))) (fun t i j z => ⟨z.1, z.2.1, Or.inl z.2.2⟩)))
            · rw [Nat.zero_add, e3 i (by omega)]; exact hm.2.1 i hi
            · rw [e1 t (by omega)]; exact hm.2.2.1 t ht
            · rw [e1 (6 + t) (by omega), show 52 + (6 + t) = 58 + t by omega]; exact hm.2.2.2.1 t ht
            · rw [e3 i (by omega)]; exact hm.2.2.2.2.2.1 i i1 i2
            · rw [ch6.1 _ _ _ (by omega)]; exact a10
            · rw [ch6.1 _ _ _ (by omega)]; exact hm.1.2.2.2
            · rw [ch6.1 _ _ _ (by omega)]; exact hm.2.2.2.2.2.2
          | succ m ih =>
            intro j σ6 hj e1 e2 e3 ch6
            refine hJ _ _ _ _ ?_
            conv => whnf
            refine ⟨fun c5 => ?_, fun c5 => ?_⟩ <;> (try simp (disch := omega) only [oi_le, oi_lt, oi_eq, oi_lt0, oi_le0, oi_0lt, oi_0le, oi_eq0, oi_eq1, bI_eq0, bI_ne0, bI_eq1, decide_eq_true_eq, decide_eq_false_iff_not, lc_lt, lc_gt, lc_eq, lc_ge, lc_le, ol_lt, ol_eq, ne_eq, Int.not_lt, Int.not_le, Bool.not_eq_true, Bool.not_eq_false, Decidable.not_not, not_true_eq_false, not_false_eq_true, Bool.true_eq_false, Bool.false_eq_true] at c5) <;> (first | (exfalso; omega) | ((fail_if_success with_reducible refine hJ _ _ _ _ ?_); conv => whnf) | skip)
            rw [oi_add]
            refine ⟨(oi_in (by omega) (by omega)).mpr ⟨by omega, by omega⟩, ?_⟩
            conv => whnf
            rw [show (Int32.ofInt (52 + (j : Int))).toNatClampNeg = 52 + j by rw [oi_nat (by omega) (by omega)]; omega, e2 j (by omega)]
            refine ⟨(oi_in (by omega) (by omega)).mpr ⟨by omega, by omega⟩, ?_⟩
            conv => whnf
            rw [oi_nat (by omega) (by omega), Int.toNat_natCast, oi_add]
            refine ih (j + 1) _ (by omega) (fun i hi => ?_) (fun i hi => by rw [wL1, if_neg (by omega)]; exact e2 i hi) e3 (ch6.tr ⟨fun _ _ _ _ => rfl, fun t i j' y => by rw [wL1, if_neg (fun w => y ⟨w.1, w.2.1, by omega⟩)], rfl⟩)
            by_cases ei : i = j
            · rw [ei, wL1, if_pos ⟨rfl, rfl, rfl⟩]
            · rw [wL1, if_neg (by omega)]; exact e1 i (by omega)
        have l59 : ∀ (m j : Nat) (σ5 : AM), j + m = 465 → (∀ i, i < j → σ5.1 47 0 i = σ4.1 47 0 (1860 + i)) → Ch (fun t i j => t = 47 ∧ i = 0 ∧ j < 465) σ4 σ5 → J 59 [.inr (.inr (46, 0)), .inl (Int32.ofInt z), .inl (Int32.ofInt 1), .inl (Int32.ofInt (j : Int))] [] σ5 := by
          intro m
          induction m with
          | zero =>
            intro j σ5 hj e1 ch5
            refine hJ _ _ _ _ ?_
            conv => whnf
            refine ⟨fun c5 => ?_, fun c5 => ?_⟩ <;> (try simp (disch := omega) only [oi_le, oi_lt, oi_eq, oi_lt0, oi_le0, oi_0lt, oi_0le, oi_eq0, oi_eq1, bI_eq0, bI_ne0, bI_eq1, decide_eq_true_eq, decide_eq_false_iff_not, lc_lt, lc_gt, lc_eq, lc_ge, lc_le, ol_lt, ol_eq, ne_eq, Int.not_lt, Int.not_le, Bool.not_eq_true, Bool.not_eq_false, Decidable.not_not, not_true_eq_false, not_false_eq_true, Bool.true_eq_false, Bool.false_eq_true] at c5) <;> (first | (exfalso; omega) | ((fail_if_success with_reducible refine hJ _ _ _ _ ?_); conv => whnf) | skip)
            refine hJ _ _ _ _ ?_
            conv => whnf
            refine l90 13 0 σ5 (by omega) (fun i hi => by omega) (fun i hi => by rw [ch5.2]) (fun i hi => e1 i (by omega)) ch5.cha
          | succ m ih =>
            intro j σ5 hj e1 ch5
            refine hJ _ _ _ _ ?_
            conv => whnf
            refine ⟨fun c5 => ?_, fun c5 => ?_⟩ <;> (try simp (disch := omega) only [oi_le, oi_lt, oi_eq, oi_lt0, oi_le0, oi_0lt, oi_0le, oi_eq0, oi_eq1, bI_eq0, bI_ne0, bI_eq1, decide_eq_true_eq, decide_eq_false_iff_not, lc_lt, lc_gt, lc_eq, lc_ge, lc_le, ol_lt, ol_eq, ne_eq, Int.not_lt, Int.not_le, Bool.not_eq_true, Bool.not_eq_false, Decidable.not_not, not_true_eq_false, not_false_eq_true, Bool.true_eq_false, Bool.false_eq_true] at c5) <;> (first | (exfalso; omega) | ((fail_if_success with_reducible refine hJ _ _ _ _ ?_); conv => whnf) | skip)
            rw [oi_add]
            refine ⟨(oi_in (by omega) (by omega)).mpr ⟨by omega, by omega⟩, ?_⟩
            conv => whnf
            rw [show (Int32.ofInt (1860 + (j : Int))).toNatClampNeg = 1860 + j by rw [oi_nat (by omega) (by omega)]; omega, ch5.1 _ _ _ (by omega)]
            refine ⟨(oi_in (by omega) (by omega)).mpr ⟨by omega, by omega⟩, ?_⟩
            conv => whnf
            rw [oi_nat (by omega) (by omega), Int.toNat_natCast, oi_add]
            refine ih (j + 1) _ (by omega) (fun i hi => ?_) (ch5.tr (Ch.wI ⟨rfl, rfl, by omega⟩))
            by_cases ei : i = j
            · rw [ei, wI_16]
            · rw [wI1, if_neg (by omega)]; exact e1 i (by omega)
        refine hJ _ _ _ _ ?_
        conv => whnf
        rw [hm.1.2.2.2]
        refine ⟨fun c4 => ?_, fun c4 => ?_⟩ <;> (try simp (disch := omega) only [oi_le, oi_lt, oi_eq, oi_lt0, oi_le0, oi_0lt, oi_0le, oi_eq0, oi_eq1, bI_eq0, bI_ne0, bI_eq1, decide_eq_true_eq, decide_eq_false_iff_not, lc_lt, lc_gt, lc_eq, lc_ge, lc_le, ol_lt, ol_eq, ne_eq, Int.not_lt, Int.not_le, Bool.not_eq_true, Bool.not_eq_false, Decidable.not_not, not_true_eq_false, not_false_eq_true, Bool.true_eq_false, Bool.false_eq_true] at c4) <;> (first | (exfalso; omega) | ((fail_if_success with_reducible refine hJ _ _ _ _ ?_); conv => whnf) | skip)
        exact l59 465 0 σ4 (by omega) (fun i hi => by omega) Ch.rf
      induction m with
      | zero =>
        intro S σ4 hm hp hs hr a10 ch
        have e0 := (kdT_bd B n S.1).2.2.mpr (by omega)
        refine hJ _ _ _ _ ?_
        conv => whnf
        refine ⟨fun c2 => ?_, fun c2 => ?_⟩ <;> (try simp (disch := omega) only [oi_le, oi_lt, oi_eq, oi_lt0, oi_le0, oi_0lt, oi_0le, oi_eq0, oi_eq1, bI_eq0, bI_ne0, bI_eq1, decide_eq_true_eq, decide_eq_false_iff_not, lc_lt, lc_gt, lc_eq, lc_ge, lc_le, ol_lt, ol_eq, ne_eq, Int.not_lt, Int.not_le, Bool.not_eq_true, Bool.not_eq_false, Decidable.not_not, not_true_eq_false, not_false_eq_true, Bool.true_eq_false, Bool.false_eq_true] at c2) <;> (first | (exfalso; omega) | ((fail_if_success with_reducible refine hJ _ _ _ _ ?_); conv => whnf) | skip)
        rw [show σ4.1 46 0 12 = Int32.ofInt (kdT B n S.1) from hm.1.2.2.1.2.1, e0]
        refine ⟨fun c3 => ?_, fun c3 => ?_⟩ <;> (try simp (disch := omega) only [oi_le, oi_lt, oi_eq, oi_lt0, oi_le0, oi_0lt, oi_0le, oi_eq0, oi_eq1, bI_eq0, bI_ne0, bI_eq1, decide_eq_true_eq, decide_eq_false_iff_not, lc_lt, lc_gt, lc_eq, lc_ge, lc_le, ol_lt, ol_eq, ne_eq, Int.not_lt, Int.not_le, Bool.not_eq_true, Bool.not_eq_false, Decidable.not_not, not_true_eq_false, not_false_eq_true, Bool.true_eq_false, Bool.false_eq_true] at c3) <;> (first | (exfalso; omega) | ((fail_if_success with_reducible refine hJ _ _ _ _ ?_); conv => whnf) | skip)
        exact b50 S σ4 hm hp hr a10 ch
      | succ m ih =>
        intro S σ4 hm hp hs hr a10 ch
        have kb := kdT_bd B n S.1
        refine hJ _ _ _ _ ?_
        conv => whnf
        refine ⟨fun c2 => ?_, fun c2 => ?_⟩ <;> (try simp (disch := omega) only [oi_le, oi_lt, oi_eq, oi_lt0, oi_le0, oi_0lt, oi_0le, oi_eq0, oi_eq1, bI_eq0, bI_ne0, bI_eq1, decide_eq_true_eq, decide_eq_false_iff_not, lc_lt, lc_gt, lc_eq, lc_ge, lc_le, ol_lt, ol_eq, ne_eq, Int.not_lt, Int.not_le, Bool.not_eq_true, Bool.not_eq_false, Decidable.not_not, not_true_eq_false, not_false_eq_true, Bool.true_eq_false, Bool.false_eq_true] at c2) <;> (first | (exfalso; omega) | ((fail_if_success with_reducible refine hJ _ _ _ _ ?_); conv => whnf) | skip)
        rw [show σ4.1 46 0 12 = Int32.ofInt (kdT B n S.1) from hm.1.2.2.1.2.1]
        refine ⟨fun c3 => ?_, fun c3 => ?_⟩ <;> (try simp (disch := omega) only [oi_le, oi_lt, oi_eq, oi_lt0, oi_le0, oi_0lt, oi_0le, oi_eq0, oi_eq1, bI_eq0, bI_ne0, bI_eq1, decide_eq_true_eq, decide_eq_false_iff_not, lc_lt, lc_gt, lc_eq, lc_ge, lc_le, ol_lt, ol_eq, ne_eq, Int.not_lt, Int.not_le, Bool.not_eq_true, Bool.not_eq_false, Decidable.not_not, not_true_eq_false, not_false_eq_true, Bool.true_eq_false, Bool.false_eq_true] at c3) <;> (first | (exfalso; omega) | ((fail_if_success with_reducible refine hJ _ _ _ _ ?_); conv => whnf) | skip)
        · rw [rAll_end c3] at hr
          exact b50 S σ4 hm hp hr a10 ch
        · refine m_part hC hm hp (fun bb σ5 o5 f5 => ?_)
          have ch5 := ch.tr (f5.mo (fun t i j z => Or.inr z) (fun _ _ _ z => z))
          have b10 : σ5.1 46 0 10 = Int32.ofInt 0 := by rw [f5.1 _ _ _ (by unfold mnS; omega)]; exact a10
          cases er : rPart B n S with
          | inl T =>
            rw [er] at o5
            have ob := o5.1
            subst ob
            have pk := rPart_ok hp er
            rw [rAll_go c3 er] at hr
            conv => whnf
            exact ih T σ5 o5.2 pk.1 (by omega) hr b10 ch5
          | inr d =>
            obtain ⟨d1, d2⟩ := d
            rw [er] at o5
            obtain ⟨ob, o18, o17, o1, o9⟩ := o5
            subst ob
            rw [rAll_no c3 er] at hr
            conv => whnf
            refine hJ _ _ _ _ ?_
            conv => whnf
            refine ⟨fun c4 => ?_, fun c4 => ?_⟩ <;> (try simp (disch := omega) only [oi_le, oi_lt, oi_eq, oi_lt0, oi_le0, oi_0lt, oi_0le, oi_eq0, oi_eq1, bI_eq0, bI_ne0, bI_eq1, decide_eq_true_eq, decide_eq_false_iff_not, lc_lt, lc_gt, lc_eq, lc_ge, lc_le, ol_lt, ol_eq, ne_eq, Int.not_lt, Int.not_le, Bool.not_eq_true, Bool.not_eq_false, Decidable.not_not, not_true_eq_false, not_false_eq_true, Bool.true_eq_false, Bool.false_eq_true] at c4) <;> (first | (exfalso; omega) | ((fail_if_success with_reducible refine hJ _ _ _ _ ?_); conv => whnf) | skip)
            refine hJ _ _ _ _ ?_
            conv => whnf
            rw [o18]
            refine ⟨fun c5 => ?_, fun c5 => ?_⟩ <;> (try simp (disch := omega) only [oi_le, oi_lt, oi_eq, oi_lt0, oi_le0, oi_0lt, oi_0le, oi_eq0, oi_eq1, bI_eq0, bI_ne0, bI_eq1, decide_eq_true_eq, decide_eq_false_iff_not, lc_lt, lc_gt, lc_eq, lc_ge, lc_le, ol_lt, ol_eq, ne_eq, Int.not_lt, Int.not_le, Bool.not_eq_true, Bool.not_eq_false, Decidable.not_not, not_true_eq_false, not_false_eq_true, Bool.true_eq_false, Bool.false_eq_true] at c5) <;> (first | (exfalso; omega) | ((fail_if_success with_reducible refine hJ _ _ _ _ ?_); conv => whnf) | skip)
            refine hJ _ _ _ _ ?_
            conv => whnf
            refine ⟨(oi_in (by omega) (by omega)).mpr ⟨by omega, by omega⟩, ?_⟩
            conv => whnf
            rw [show σ5.1 47 0 (Int32.ofInt 1).toNatClampNeg = Int32.ofInt (σ5.1 47 0 1).toInt from (oi_ti _).symm]
            refine m_takenS hC (c := d1) o18 (by omega) (by omega) (fun y => by omega) (fun _ => ?_)
            conv => whnf
            refine h3 d1 d2 _ hr ?_ ?_ ?_ wI_16 (((ch5.mo (fun t i j z => z.elim (fun z => Or.inl z) (fun z => Or.inr (Or.inl z))) (fun _ _ _ z => z)).tr (ChA.wI (Or.inr (Or.inr ⟨rfl, rfl, by omega⟩)))).tr (ChA.wI (Or.inr (Or.inr ⟨rfl, rfl, by omega⟩))))
            · rw [wI1, if_neg (by omega), wI1, if_neg (by omega)]; exact b10
            · rw [wI1, if_neg (by omega), wI_16]
            · rw [wI1, if_neg (by omega), wI1, if_neg (by omega)]; exact o17
    have tf := tokF_ok (B := B) (L := n) (e0 := 0) (by omega)
    refine b31 901 (S0 (tokF B n 0)) _ ?_ (S0_PI tf.2.1) (by omega) rfl ?_ ?_
    · have a2 : AMo (wI σ2 46 0 20 (Int32.ofInt 0)) B n (tokF B n 0) := (a1.ch f2.1 (fun j _ _ z => by omega) (fun j z => by omega)).ch (S := fun t _ j => t = 46 ∧ j = 20) (fun t q j z => by rw [wI1, if_neg (fun y => z ⟨y.1, y.2.2⟩)]) (fun j _ _ z => by omega) (fun j z => by omega)
      refine ⟨a2, fun j hj => by rw [wI1, if_neg (by omega)]; exact e2 j (by omega), fun t ht => ?_, fun t ht => ?_, ⟨0, by omega, wI_16, rfl, rfl⟩, fun j j1 j2 => ?_, ?_⟩
      · have ht : (t : Int) < hZ 0 := ht
        rw [hZ_0 (by omega)] at ht; omega
      · have ht : (t : Int) < hZ 1 := ht
        rw [hZ_0 (by omega)] at ht; omega
      · rw [wI1, if_neg (by omega), e2 j (by omega), hZ_0 (by omega)]
      · rw [wI1, if_neg (by omega), f2.1 _ _ _ (by omega)]; exact a17
    · rw [wI1, if_neg (by omega), f2.1 _ _ _ (by omega)]; exact a10
    · refine ((f1.cha.mo (fun t i j z => Or.inl z) (fun _ _ _ z => z)).tr (f2.cha.mo (fun t i j z => Or.inr (Or.inr ⟨z.1, z.2.1, z.2.2⟩)) (fun _ _ _ z => z))).tr (ChA.wI (Or.inr (Or.inl ⟨rfl, rfl, by omega⟩)))
