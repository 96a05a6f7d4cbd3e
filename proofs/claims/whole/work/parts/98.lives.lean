theorem GD.e10 {h0 h : Nat → Int} (hg : GD h0 h) : h 10 = h0 10 := hg.2.2.2.2.1
theorem s_m_does {CALL : CT} (hC : RuleAll CALL) {r : Nat} {σ : AM} {K : AV → AM → Prop} {s k : Nat} {d : Nat → Nat → Int} {h0 : Nat → Int} {S : DS} {a b : Int} (hm : M0 σ S.1) (hg : GD h0 S.1) (ms : MSt σ s d) (ea : h0 0 = a) (eb : h0 1 = b) (hf : StepOk a b (d k)) (hk : k < s) (g3 : σ.1 46 0 40 = Int32.ofInt S.2.1) (g0 : 0 ≤ S.2.1) (g1 : S.2.1 < 65536) (rn : RaN σ h0 S.1) (h : ∀ σ' : AM, M0 σ' (doF (d k) S).1 → σ'.1 46 0 40 = Int32.ofInt (doF (d k) S).2.1 → RaN σ' h0 (doF (d k) S).1 → Ch dmS σ σ' → K (.inl (bI (decide ((doF (d k) S).2.2 = S.2.2)))) σ') : CALL (r + 9) n_m_does [.inr (.inr (46, 0)), .inl (Int32.ofInt ((97 + 6 * k : Nat) : Int))] σ K := by
  refine r_m_does hC (fun J hJ => ?_)
  refine hJ _ _ _ _ ?_
  conv => whnf
  have hw := hg.1.1
  have e1 : S.1 1 = b := hg.2.2.2.1.trans eb
  have bb := hw.1
  have hg5 := hg.2.1
  have s60 := ms.1
  have m0 : σ.1 47 0 (97 + 6 * k) = Int32.ofInt (d k 0) := ms.2 k hk 0 (by omega)
  have m1 : σ.1 47 0 (97 + 6 * k + 1) = Int32.ofInt (d k 1) := ms.2 k hk 1 (by omega)
  have ko := kdC_or hf
  have kb : 11 ≤ d k 0 ∧ d k 0 ≤ 2000 := by omega
  rw [oi_succ]
  refine ⟨(oi_in (by omega) (by omega)).mpr ⟨by omega, by omega⟩, ?_⟩
  conv => whnf
  refine ⟨(oi_in (by omega) (by omega)).mpr ⟨by omega, by omega⟩, ?_⟩
  conv => whnf
  rw [oi_nat (by omega) (by omega), oi_nat (by omega) (by omega), Int.toNat_natCast, Int.toNat_natCast, m0, m1]
  have et : (Int32.ofInt (d k 0)).toInt = d k 0 := ti_oi (by omega) (by omega)
  refine ⟨⟨fun c => ?_, fun c => ?_, fun c => ?_, fun c => ?_, fun c => ?_, trivial⟩, fun c => ?_⟩
  all_goals rw [et] at c
  all_goals clear ko
  · have hf1 := hf.c11 c
    have eD : doF (d k) S = if 9999 < S.1 5 + d k 1 then (S.1, S.2.1, S.2.2 + 1) else (minN (d k 1).toNat S.1, S.2.1, S.2.2) := if_pos c
    obtain ⟨m, em⟩ : ∃ m : Nat, d k 1 = (m : Int) := ⟨(d k 1).toNat, by omega⟩
    rw [eD, em, Int.toNat_natCast] at h
    rw [em]
    refine hJ _ _ _ _ ?_
    conv => whnf
    refine s_m_minutesBy hC hm hg.1 hg5 (by omega) rn (fun z => ?_) (fun z σ' k1 k2 k3 k4 => ?_)
    · conv => whnf
      rw [if_pos z] at h
      have := h σ hm g3 rn Ch.rf
      rw [show decide (S.2.2 + 1 = S.2.2) = false from decide_eq_false (by omega)] at this
      exact ⟨Or.inl rfl, this⟩
    · conv => whnf
      rw [if_neg z] at h
      have := h σ' k1 (by rw [k4]; exact g3) k2 k3
      rw [show decide (S.2.2 = S.2.2) = true from decide_eq_true rfl] at this
      exact ⟨Or.inr rfl, this⟩
  · have c : d k 0 = 12 := by omega
    have hf1 := hf.c12 (Or.inl c)
    have eD : doF (d k) S = (up S.1 8 (d k 1), S.2.1, S.2.2 + (if S.1 8 = d k 1 then 1 else 0)) := by unfold doF; rw [if_neg (by omega), if_pos c]
    rw [eD] at h
    refine hJ _ _ _ _ ?_
    conv => whnf
    refine s_m_changes hC hm (by omega) (by omega) (by omega) (by omega) ?_
    conv => whnf
    have := h (wI σ 47 0 8 (Int32.ofInt (d k 1))) hm.upd (by rw [wI1, if_neg (by omega), g3]) (RaN.cg (h' := up S.1 8 (d k 1)) rn (fun j => by rw [wI1, if_neg (by omega)]) (up_ne (i := 8) (by omega)) (up_ne (i := 8) (by omega)) (up_ne (i := 8) (by omega))) (Ch.wI ⟨rfl, Or.inl ⟨rfl, by omega⟩⟩)
    have e : decide (S.2.2 + (if S.1 8 = d k 1 then 1 else 0) = S.2.2) = decide (S.1 8 ≠ d k 1) := decide_eq_decide.mpr (by split <;> omega)
    rw [e] at this
    exact ⟨bI_01 _, this⟩
  · have c : d k 0 = 13 := by omega
    have hf1 := hf.c12 (Or.inr (Or.inl c))
    obtain ⟨m, em⟩ : ∃ m : Nat, d k 1 = (m : Int) := ⟨(d k 1).toNat, by omega⟩
    have eD : doF (d k) S = (up S.1 (27 + 7 * m) 1, S.2.1, S.2.2 + (if S.1 (27 + 7 * m) = 1 then 1 else 0)) := by unfold doF; rw [if_neg (by omega), if_neg (by omega), if_pos c, em, Int.toNat_natCast]
    rw [eD] at h
    rw [em]
    refine hJ _ _ _ _ ?_
    conv => whnf
    refine s_m_wakes hC (is := true) hm hw (by omega) ?_
    conv => whnf
    have := h (wI σ 47 0 (27 + 7 * m) (Int32.ofInt 1)) hm.upd (by rw [wI1, if_neg (by omega), g3]) (rn.cg (fun j => by rw [wI1, if_neg (by omega)]) (up_ne (by omega)) (up_ne (by omega)) (up_ne (by omega))) (Ch.wI ⟨rfl, Or.inl ⟨rfl, by omega⟩⟩)
    have e : decide (S.2.2 + (if S.1 (27 + 7 * m) = 1 then 1 else 0) = S.2.2) = decide (S.1 (27 + 7 * m) ≠ b01 true) := decide_eq_decide.mpr (by show _ ↔ S.1 (27 + 7 * m) ≠ 1; split <;> omega)
    rw [e] at this
    exact ⟨bI_01 _, this⟩
  · have c : d k 0 = 14 := by omega
    have hf1 := hf.c12 (Or.inr (Or.inr c))
    obtain ⟨m, em⟩ : ∃ m : Nat, d k 1 = (m : Int) := ⟨(d k 1).toNat, by omega⟩
    have eD : doF (d k) S = (up S.1 (27 + 7 * m) 0, S.2.1, S.2.2 + (if S.1 (27 + 7 * m) = 0 then 1 else 0)) := by unfold doF; rw [if_neg (by omega), if_neg (by omega), if_neg (by omega), if_pos c, em, Int.toNat_natCast]
    rw [eD] at h
    rw [em]
    refine hJ _ _ _ _ ?_
    conv => whnf
    refine s_m_wakes hC (is := false) hm hw (by omega) ?_
    conv => whnf
    have := h (wI σ 47 0 (27 + 7 * m) (Int32.ofInt 0)) hm.upd (by rw [wI1, if_neg (by omega), g3]) (rn.cg (fun j => by rw [wI1, if_neg (by omega)]) (up_ne (by omega)) (up_ne (by omega)) (up_ne (by omega))) (Ch.wI ⟨rfl, Or.inl ⟨rfl, by omega⟩⟩)
    have e : decide (S.2.2 + (if S.1 (27 + 7 * m) = 0 then 1 else 0) = S.2.2) = decide (S.1 (27 + 7 * m) ≠ b01 false) := decide_eq_decide.mpr (by show _ ↔ S.1 (27 + 7 * m) ≠ 0; split <;> omega)
    rw [e] at this
    exact ⟨bI_01 _, this⟩
  · have c : d k 0 = 15 := by omega
    have eD : doF (d k) S = (if S.1 1 = 0 then (S.1, S.2.1, S.2.2 + 1) else (up S.1 (24 + 7 * (drw S.2.1 / 8 % S.1 1).toNat) (max 0 (S.1 (24 + 7 * (drw S.2.1 / 8 % S.1 1).toNat) - drw (drw S.2.1) / 8 % 8)), drw (drw S.2.1), S.2.2)) := by unfold doF; rw [if_neg (by omega), if_neg (by omega), if_neg (by omega), if_neg (by omega), if_pos c]
    rw [eD] at h
    refine hJ _ _ _ _ ?_
    conv => whnf
    refine s_m_coughsAny hC hm hw g3 g0 g1 (fun z => ?_) (fun z σ' k1 k2 k3 => ?_)
    · conv => whnf
      rw [if_pos z] at h
      have := h σ hm g3 rn Ch.rf
      rw [show decide (S.2.2 + 1 = S.2.2) = false from decide_eq_false (by omega)] at this
      exact ⟨Or.inl rfl, this⟩
    · conv => whnf
      rw [if_neg z] at h
      have := h σ' k1 k2 (rn.cg (fun j => k3.1 _ _ _ (by omega)) (up_ne (by omega)) (up_ne (by omega)) (up_ne (by omega))) (k3.mo (fun t q j y => by unfold dmS; omega))
      rw [show decide (S.2.2 = S.2.2) = true from decide_eq_true rfl] at this
      exact ⟨Or.inr rfl, this⟩
  · have eD : doF (d k) S = S := doF_o (by omega)
    rw [eD] at h
    have := h σ hm g3 rn Ch.rf
    rw [show decide (S.2.2 = S.2.2) = true from decide_eq_true rfl] at this
    refine hJ _ _ _ _ ?_
    conv => whnf
    exact ⟨Or.inr rfl, this⟩
/-- the reference's count of rounds -/
def LpR (σ : AM) (d : Nat → Nat → Int) (k : Nat) (lp : Nat → Int) : Prop := ∀ o, LC d k o → σ.1 64 0 o = Int32.ofInt (lp o) ∧ 0 ≤ lp o ∧ lp o ≤ 98
theorem s_m_behindEnds {CALL : CT} (hC : RuleAll CALL) {r : Nat} {σ : AM} {K : AV → AM → Prop} {f k s : Nat} {d : Nat → Nat → Int} {dep : Nat → Nat} {lp h1 : Nat → Int} {a b : Int} (hm : M0 σ h1) (h10 : h1 10 = (s : Int)) (ms : MSt σ s d) (wd : WD a b d s dep) (hk : k ≤ s) (hd : dep k ≤ f) (hlp : LpR σ d k lp) (h : ∀ σ' : AM, Ch (fun t q j => t = 64 ∧ q = 0) σ σ' → LpR σ' d (endsF d s f k lp).1 (endsF d s f k lp).2 → K (.inl (Int32.ofInt (((endsF d s f k lp).1 : Nat) : Int))) σ') : CALL (r + 1) n_m_behindEnds [.inr (.inr (46, 0)), .inl (Int32.ofInt (k : Int))] σ K := by
  refine r_m_behindEnds hC (fun J hJ => ?_)
  refine hJ _ _ _ _ ?_
  conv => whnf
  have s60 := ms.1
  -- one end
  have at76 : ∀ (bo : Bool) (k' o : Nat) (σe : AM) (x4 : AV), o < 60 → k' < 60 → J 2 [.inr (.inr (46, 0)), .inl (Int32.ofInt (k : Int)), .inl (Int32.ofInt ((if bo then o + 1 else k' + 1 : Nat) : Int)), .inl (Int32.ofInt (o : Int)), .inl (bI bo)] [] (wI σe 64 0 o (σe.1 64 0 o - bI bo)) → J 76 [.inr (.inr (46, 0)), .inl (Int32.ofInt (k : Int)), .inl (Int32.ofInt (k' : Int)), .inl (Int32.ofInt (o : Int)), x4] [.inl (bI bo)] σe := by
    intro bo k' o σe x4 ho hk' nx
    cases bo with
    | true =>
      refine hJ _ _ _ _ ?_
      conv => whnf
      refine ⟨(oi_in (by omega) (by omega)).mpr ⟨by omega, by omega⟩, ?_⟩
      conv => whnf
      rw [oi_nat (by omega) (by omega), Int.toNat_natCast]
      refine ⟨fun z => absurd z (by decide), fun _ => ?_⟩
      conv => whnf
      refine hJ _ _ _ _ ?_
      conv => whnf
      refine ⟨(oi_in (by omega) (by omega)).mpr ⟨by omega, by omega⟩, ?_⟩
      conv => whnf
      rw [oi_nat (by omega) (by omega), Int.toNat_natCast]
      refine ⟨fun z => absurd z (by decide), fun _ => ?_⟩
      conv => whnf
      refine hJ _ _ _ _ ?_
      conv => whnf
      rw [oi_succ]
      exact nx
    | false =>
      refine hJ _ _ _ _ ?_
      conv => whnf
      refine ⟨(oi_in (by omega) (by omega)).mpr ⟨by omega, by omega⟩, ?_⟩
      conv => whnf
      rw [oi_nat (by omega) (by omega), Int.toNat_natCast]
      refine ⟨fun _ => ?_, fun z => absurd rfl z⟩
      refine hJ _ _ _ _ ?_
      conv => whnf
      refine hJ _ _ _ _ ?_
      conv => whnf
      refine ⟨(oi_in (by omega) (by omega)).mpr ⟨by omega, by omega⟩, ?_⟩
      conv => whnf
      rw [oi_nat (by omega) (by omega), Int.toNat_natCast]
      refine ⟨fun _ => ?_, fun z => absurd rfl z⟩
      refine hJ _ _ _ _ ?_
      conv => whnf
      refine hJ _ _ _ _ ?_
      conv => whnf
      rw [oi_succ]
      exact nx
  -- as far as the question whether again
  have ask : ∀ (k' o : Nat) (σe : AM) (x3 x4 : AV), k' < s → d k' 0 = 18 → d k' 4 = (o : Int) → o < k' → M0 σe h1 → MSt σe s d → (d o 0 = 17 → ∃ v : Int, σe.1 64 0 o = Int32.ofInt v ∧ 0 ≤ v ∧ v ≤ 98) → (∀ x4 : AV, (d o 0 = 17 ∧ 0 < σe.1 64 0 o) → J 76 [.inr (.inr (46, 0)), .inl (Int32.ofInt (k : Int)), .inl (Int32.ofInt (k' : Int)), .inl (Int32.ofInt (o : Int)), x4] [.inl (bI true)] σe) → (∀ x4 : AV, ¬ (d o 0 = 17 ∧ 0 < σe.1 64 0 o) → J 76 [.inr (.inr (46, 0)), .inl (Int32.ofInt (k : Int)), .inl (Int32.ofInt (k' : Int)), .inl (Int32.ofInt (o : Int)), x4] [.inl (bI false)] σe) → J 2 [.inr (.inr (46, 0)), .inl (Int32.ofInt (k : Int)), .inl (Int32.ofInt (k' : Int)), x3, x4] [] σe := by
    intro k' o σe x3 x4 hk' h18 h4 hok hme mse hv y1 y2
    have m0 : σe.1 47 0 (97 + 6 * k') = Int32.ofInt (d k' 0) := mse.2 k' hk' 0 (by omega)
    have m4 : σe.1 47 0 (97 + 6 * k' + 4) = Int32.ofInt (d k' 4) := mse.2 k' hk' 4 (by omega)
    have mo : σe.1 47 0 (97 + 6 * o) = Int32.ofInt (d o 0) := mse.2 o (by omega) 0 (by omega)
    have ko := kdC_or (wd.2.2.2.2 o (by omega)).1
    have kb : 11 ≤ d o 0 ∧ d o 0 ≤ 2000 := by omega
    clear ko
    have no : ¬ (d o 0 = 17 ∧ 0 < σe.1 64 0 o) → J 75 [.inr (.inr (46, 0)), .inl (Int32.ofInt (k : Int)), .inl (Int32.ofInt (k' : Int)), .inl (Int32.ofInt (o : Int)), x4] [] σe := by
      intro z
      refine hJ _ _ _ _ ?_
      conv => whnf
      exact y2 _ z
    refine hJ _ _ _ _ ?_
    conv => whnf
    refine ⟨(oi_in (by omega) (by omega)).mpr ⟨by omega, by omega⟩, ?_⟩
    conv => whnf
    rw [show (Int32.ofInt 10).toNatClampNeg = 10 from rfl, hme 10 (by omega)]
    rw [h10]
    refine ⟨fun c => ?_, fun c => ?_⟩ <;> (try simp (disch := omega) only [oi_le, oi_lt, oi_eq, oi_lt0, oi_le0, oi_0lt, oi_0le, oi_eq0, oi_eq1, bI_eq0, bI_ne0, bI_eq1, decide_eq_true_eq, decide_eq_false_iff_not, lc_lt, lc_gt, lc_eq, lc_ge, lc_le, ol_lt, ol_eq, ne_eq, Int.not_lt, Int.not_le, Bool.not_eq_true, Bool.not_eq_false, Decidable.not_not, not_true_eq_false, not_false_eq_true, Bool.true_eq_false, Bool.false_eq_true] at c) <;> (first | (exfalso; omega) | ((fail_if_success with_reducible refine hJ _ _ _ _ ?_); conv => whnf) | skip)
    rw [oi_mul, oi_add]
    refine ⟨(oi_in (by omega) (by omega)).mpr ⟨by omega, by omega⟩, ?_⟩
    conv => whnf
    rw [oi_nat (by omega) (by omega), show (97 + 6 * (k' : Int)).toNat = 97 + 6 * k' by omega, m0, h18]
    refine ⟨fun z => absurd rfl z, fun _ => ?_⟩
    conv => whnf
    rw [oi_mul, oi_add, oi_add]
    refine ⟨(oi_in (by omega) (by omega)).mpr ⟨by omega, by omega⟩, ?_⟩
    conv => whnf
    rw [oi_nat (by omega) (by omega), show (97 + 6 * (k' : Int) + 4).toNat = 97 + 6 * k' + 4 by omega, m4, h4, oi_mul, oi_add]
    refine ⟨(oi_in (by omega) (by omega)).mpr ⟨by omega, by omega⟩, ?_⟩
    conv => whnf
    rw [oi_nat (by omega) (by omega), show (97 + 6 * (o : Int)).toNat = 97 + 6 * o by omega, mo]
    refine ⟨fun c2 => ?_, fun c2 => ?_⟩ <;> (try simp (disch := omega) only [oi_le, oi_lt, oi_eq, oi_lt0, oi_le0, oi_0lt, oi_0le, oi_eq0, oi_eq1, bI_eq0, bI_ne0, bI_eq1, decide_eq_true_eq, decide_eq_false_iff_not, lc_lt, lc_gt, lc_eq, lc_ge, lc_le, ol_lt, ol_eq, ne_eq, Int.not_lt, Int.not_le, Bool.not_eq_true, Bool.not_eq_false, Decidable.not_not, not_true_eq_false, not_false_eq_true, Bool.true_eq_false, Bool.false_eq_true] at c2) <;> (first | (exfalso; omega) | ((fail_if_success with_reducible refine hJ _ _ _ _ ?_); conv => whnf) | skip)
    · exact no (fun z => c2 z.1)
    · refine ⟨(oi_in (by omega) (by omega)).mpr ⟨by omega, by omega⟩, ?_⟩
      conv => whnf
      rw [oi_nat (by omega) (by omega), Int.toNat_natCast]
      refine ⟨fun z => ?_, fun z => ?_⟩
      · exact no (fun y => Int32.not_lt.mpr z y.2)
      · conv => whnf
        exact y1 _ ⟨c2, Int32.not_le.mp z⟩
  have loop : ∀ (f' k' : Nat) (lp' : Nat → Int) (σe : AM) (x3 x4 : AV), k' ≤ s → dep k' ≤ f' → Ch (fun t q j => t = 64 ∧ q = 0) σ σe → LpR σe d k' lp' → (∀ σ' : AM, Ch (fun t q j => t = 64 ∧ q = 0) σ σ' → LpR σ' d (endsF d s f' k' lp').1 (endsF d s f' k' lp').2 → K (.inl (Int32.ofInt (((endsF d s f' k' lp').1 : Nat) : Int))) σ') → J 2 [.inr (.inr (46, 0)), .inl (Int32.ofInt (k : Int)), .inl (Int32.ofInt (k' : Int)), x3, x4] [] σe := by
    have stop : ∀ (k' : Nat) (σe : AM) (x3 x4 : AV), k' ≤ s → ¬ (k' < s ∧ d k' 0 = 18) → M0 σe h1 → MSt σe s d → K (.inl (Int32.ofInt (k' : Int))) σe → J 2 [.inr (.inr (46, 0)), .inl (Int32.ofInt (k : Int)), .inl (Int32.ofInt (k' : Int)), x3, x4] [] σe := by
      intro k' σe x3 x4 hk' hno hme mse hK
      have f115 : J 115 [.inr (.inr (46, 0)), .inl (Int32.ofInt (k : Int)), .inl (Int32.ofInt (k' : Int)), x3, x4] [] σe := by
        refine hJ _ _ _ _ ?_
        conv => whnf
        exact hK
      refine hJ _ _ _ _ ?_
      conv => whnf
      refine ⟨(oi_in (by omega) (by omega)).mpr ⟨by omega, by omega⟩, ?_⟩
      conv => whnf
      rw [show (Int32.ofInt 10).toNatClampNeg = 10 from rfl, hme 10 (by omega)]
      rw [h10]
      refine ⟨fun c => ?_, fun c => ?_⟩ <;> (try simp (disch := omega) only [oi_le, oi_lt, oi_eq, oi_lt0, oi_le0, oi_0lt, oi_0le, oi_eq0, oi_eq1, bI_eq0, bI_ne0, bI_eq1, decide_eq_true_eq, decide_eq_false_iff_not, lc_lt, lc_gt, lc_eq, lc_ge, lc_le, ol_lt, ol_eq, ne_eq, Int.not_lt, Int.not_le, Bool.not_eq_true, Bool.not_eq_false, Decidable.not_not, not_true_eq_false, not_false_eq_true, Bool.true_eq_false, Bool.false_eq_true] at c) <;> (first | (exfalso; omega) | ((fail_if_success with_reducible refine hJ _ _ _ _ ?_); conv => whnf) | skip)
      · exact f115
      · have m0 : σe.1 47 0 (97 + 6 * k') = Int32.ofInt (d k' 0) := mse.2 k' (by omega) 0 (by omega)
        have ko := kdC_or (wd.2.2.2.2 k' (by omega)).1
        have kb : 11 ≤ d k' 0 ∧ d k' 0 ≤ 2000 := by omega
        clear ko
        rw [oi_mul, oi_add]
        refine ⟨(oi_in (by omega) (by omega)).mpr ⟨by omega, by omega⟩, ?_⟩
        conv => whnf
        rw [oi_nat (by omega) (by omega), show (97 + 6 * (k' : Int)).toNat = 97 + 6 * k' by omega, m0]
        refine ⟨fun c2 => ?_, fun c2 => ?_⟩ <;> (try simp (disch := omega) only [oi_le, oi_lt, oi_eq, oi_lt0, oi_le0, oi_0lt, oi_0le, oi_eq0, oi_eq1, bI_eq0, bI_ne0, bI_eq1, decide_eq_true_eq, decide_eq_false_iff_not, lc_lt, lc_gt, lc_eq, lc_ge, lc_le, ol_lt, ol_eq, ne_eq, Int.not_lt, Int.not_le, Bool.not_eq_true, Bool.not_eq_false, Decidable.not_not, not_true_eq_false, not_false_eq_true, Bool.true_eq_false, Bool.false_eq_true] at c2) <;> (first | (exfalso; omega) | ((fail_if_success with_reducible refine hJ _ _ _ _ ?_); conv => whnf) | skip)
        exact f115
    intro f'
    induction f' with
    | zero =>
      intro k' lp' σe x3 x4 hk' hd' hc hlp' kk
      have hme : M0 σe h1 := hm.ch hc (fun j hj => by omega)
      have mse : MSt σe s d := ⟨ms.1, fun q hq j hj => by rw [hc.1 _ _ _ (by omega)]; exact ms.2 q hq j hj⟩
      refine stop k' σe x3 x4 hk' (fun z => ?_) hme mse (kk σe hc hlp')
      have := (wd.en z.1 z.2).1
      omega
    | succ f' ih =>
      intro k' lp' σe x3 x4 hk' hd' hc hlp' kk
      have hme : M0 σe h1 := hm.ch hc (fun j hj => by omega)
      have mse : MSt σe s d := ⟨ms.1, fun q hq j hj => by rw [hc.1 _ _ _ (by omega)]; exact ms.2 q hq j hj⟩
      rw [endsF] at kk
      by_cases ce : k' < s ∧ d k' 0 = 18
      · rw [if_pos ce] at kk
        obtain ⟨p1, o, p2, p3, p4, p5⟩ := wd.en ce.1 ce.2
        rw [p2, Int.toNat_natCast] at kk
        by_cases h17 : d o 0 = 17
        · obtain ⟨v1, v2, v3⟩ := hlp' o ⟨h17, p3, by omega⟩
          by_cases em : o + 1 = k'
          · -- a loop of nothing
            rw [if_neg (by omega)] at kk
            have turn : ∀ (v : Nat) (σt : AM) (x3 x4 : AV), v ≤ 98 → Ch (fun t q j => t = 64 ∧ q = 0) σ σt → σt.1 64 0 o = Int32.ofInt (v : Int) → (∀ j, j ≠ o → σt.1 64 0 j = σe.1 64 0 j) → J 2 [.inr (.inr (46, 0)), .inl (Int32.ofInt (k : Int)), .inl (Int32.ofInt (k' : Int)), x3, x4] [] σt := by
              intro v
              induction v with
              | zero =>
                intro σt x3 x4 hv hct hvt hot
                have hmt : M0 σt h1 := hm.ch hct (fun j hj => by omega)
                have mst : MSt σt s d := ⟨ms.1, fun q hq j hj => by rw [hct.1 _ _ _ (by omega)]; exact ms.2 q hq j hj⟩
                refine ask k' o σt x3 x4 ce.1 ce.2 p2 p3 hmt mst (fun _ => ⟨0, hvt, by omega, by omega⟩) (fun x4 z => ?_) (fun x4 z => ?_)
                · have := z.2
                  rw [hvt] at this
                  exact absurd this (by decide)
                · refine at76 false k' o σt x4 (by omega) (by omega) ?_
                  refine ih (k' + 1) lp' _ _ _ (by omega) (by omega) (hct.tr (Ch.wI ⟨rfl, rfl⟩)) (fun o2 ho2 => ?_) kk
                  have eo : o2 ≠ o := fun e => by
                    have := ho2.2.2
                    rw [e, p5] at this
                    omega
                  rw [wI1, if_neg (by omega), hot o2 eo]
                  exact hlp' o2 (ho2.nx (by omega))
              | succ v ihv =>
                intro σt x3 x4 hv hct hvt hot
                have hmt : M0 σt h1 := hm.ch hct (fun j hj => by omega)
                have mst : MSt σt s d := ⟨ms.1, fun q hq j hj => by rw [hct.1 _ _ _ (by omega)]; exact ms.2 q hq j hj⟩
                refine ask k' o σt x3 x4 ce.1 ce.2 p2 p3 hmt mst (fun _ => ⟨_, hvt, by omega, by omega⟩) (fun x4 z => ?_) (fun x4 z => ?_)
                · refine at76 true k' o σt x4 (by omega) (by omega) ?_
                  rw [hvt, show bI true = Int32.ofInt 1 from rfl, oi_sub, show ((v + 1 : Nat) : Int) - 1 = (v : Int) by omega]
                  show J 2 [_, _, .inl (Int32.ofInt ((o + 1 : Nat) : Int)), _, _] [] _
                  rw [em]
                  exact ihv _ _ _ (by omega) (hct.tr (Ch.wI ⟨rfl, rfl⟩)) wI_16 (fun j hj => by rw [wI1, if_neg (by omega), hot j hj])
                · refine absurd ⟨h17, ?_⟩ z
                  rw [hvt]
                  exact (oi_0lt (by omega) (by omega)).mpr (by omega)
            exact turn (lp' o).toNat σe x3 x4 (by omega) hc (by rw [v1]; congr 1; omega) (fun j hj => rfl)
          · by_cases pos : 0 < lp' o
            · -- once more
              rw [if_pos ⟨h17, pos, em⟩] at kk
              refine ask k' o σe x3 x4 ce.1 ce.2 p2 p3 hme mse (fun _ => ⟨_, v1, v2, v3⟩) (fun x4 z => ?_) (fun x4 z => ?_)
              · refine at76 true k' o σe x4 (by omega) (by omega) ?_
                rw [v1, show bI true = Int32.ofInt 1 from rfl, oi_sub]
                have hc2 : Ch (fun t q j => t = 64 ∧ q = 0) σ (wI σe 64 0 o (Int32.ofInt (lp' o - 1))) := hc.tr (Ch.wI ⟨rfl, rfl⟩)
                have hm2 : M0 (wI σe 64 0 o (Int32.ofInt (lp' o - 1))) h1 := hm.ch hc2 (fun j hj => by omega)
                have ms2 : MSt (wI σe 64 0 o (Int32.ofInt (lp' o - 1))) s d := ⟨ms.1, fun q hq j hj => by rw [hc2.1 _ _ _ (by omega)]; exact ms.2 q hq j hj⟩
                refine stop (o + 1) _ _ _ (by omega) (fun y => wd.first ce.1 ce.2 p2 em y.2) hm2 ms2 ?_
                refine kk _ hc2 (fun o2 ho2 => ?_)
                dsimp only at ho2 ⊢
                by_cases eo : o2 = o
                · subst eo
                  rw [wI_16, up_eq]
                  exact ⟨rfl, by omega, by omega⟩
                · rcases LC.back wd ce.1 ce.2 p2 (LC.lt wd ho2 (by omega)) ho2 with e | e
                  · exact absurd e eo
                  · rw [wI1, if_neg (by omega), up_ne eo]
                    exact hlp' o2 e
              · refine absurd ⟨h17, ?_⟩ z
                rw [v1]
                exact (oi_0lt (by omega) (by omega)).mpr (by omega)
            · -- it is done
              rw [if_neg (fun z => pos z.2.1)] at kk
              refine ask k' o σe x3 x4 ce.1 ce.2 p2 p3 hme mse (fun _ => ⟨_, v1, v2, v3⟩) (fun x4 z => ?_) (fun x4 z => ?_)
              · have := z.2
                rw [v1, oi_0lt (by omega) (by omega)] at this
                exact absurd this pos
              · refine at76 false k' o σe x4 (by omega) (by omega) ?_
                refine ih (k' + 1) lp' _ _ _ (by omega) (by omega) (hc.tr (Ch.wI ⟨rfl, rfl⟩)) (fun o2 ho2 => ?_) kk
                have eo : o2 ≠ o := fun e => by
                  have := ho2.2.2
                  rw [e, p5] at this
                  omega
                rw [wI1, if_neg (by omega)]
                exact hlp' o2 (ho2.nx (by omega))
        · rw [if_neg (fun z => h17 z.1)] at kk
          refine ask k' o σe x3 x4 ce.1 ce.2 p2 p3 hme mse (fun z => absurd z h17) (fun x4 z => absurd z.1 h17) (fun x4 z => ?_)
          refine at76 false k' o σe x4 (by omega) (by omega) ?_
          refine ih (k' + 1) lp' _ _ _ (by omega) (by omega) (hc.tr (Ch.wI ⟨rfl, rfl⟩)) (fun o2 ho2 => ?_) kk
          have eo : o2 ≠ o := fun e => h17 (by rw [← e]; exact ho2.1)
          rw [wI1, if_neg (by omega)]
          exact hlp' o2 (ho2.nx (by omega))
      · rw [if_neg ce] at kk
        exact stop k' σe x3 x4 hk' ce hme mse (kk σe hc hlp')
  exact loop f k lp σ _ _ hk hd Ch.rf hlp h
def lvS2' (t q j : Nat) : Prop := q = 0 ∧ ((t = 47 ∧ j < 97) ∨ (t = 46 ∧ (j = 24 ∨ j = 25 ∨ j = 26 ∨ j = 40 ∨ j = 41)) ∨ t = 64 ∨ t = 65)
theorem s_m_lives {CALL : CT} (hC : RuleAll CALL) {r : Nat} {σ : AM} {K : AV → AM → Prop} {s : Nat} {d : Nat → Nat → Int} {dep : Nat → Nat} {h0 : Nat → Int} {g : Int} (hm : M0 σ h0) (h10 : h0 10 = (s : Int)) (ms : MSt σ s d) (hwp : WP h0) (h59 : h0 5 ≤ 9999) (wd : WD (h0 0) (h0 1) d s dep) (g0 : 0 ≤ g) (g1 : g < 65536) (h : ∀ σ' : AM, Ch lvS2' σ σ' → M0 σ' (runF d s 300 0 (fun _ => 0) (h0, g, 0)).1.1 → σ'.1 46 0 41 = Int32.ofInt (300 - ((runF d s 300 0 (fun _ => 0) (h0, g, 0)).2.1 : Int)) → σ'.1 65 0 0 = Int32.ofInt (runF d s 300 0 (fun _ => 0) (h0, g, 0)).1.2.2 → RaN σ' h0 (runF d s 300 0 (fun _ => 0) (h0, g, 0)).1.1 → σ'.1 65 0 4 = bI (runF d s 300 0 (fun _ => 0) (h0, g, 0)).2.2 → K unset σ') : CALL (r + 10) n_m_lives [.inr (.inr (46, 0)), .inl (Int32.ofInt g)] σ K := by
  refine r_m_lives hC (fun J hJ => ?_)
  refine hJ _ _ _ _ ?_
  conv => whnf
  have s60 := ms.1
  have main : ∀ (n k : Nat) (lp : Nat → Int) (S : DS) (σe : AM) (x3 : AV), k ≤ s → n ≤ 300 → (k < s → d k 0 ≠ 18) → Ch lvS2' σ σe → M0 σe S.1 → σe.1 46 0 40 = Int32.ofInt S.2.1 → σe.1 46 0 41 = Int32.ofInt (300 - (n : Int)) → σe.1 65 0 0 = Int32.ofInt S.2.2 → σe.1 65 0 4 = Int32.ofInt 0 → RaN σe h0 S.1 → LpR σe d k lp → GD h0 S.1 → 0 ≤ S.2.1 → S.2.1 < 65536 → runF d s n k lp S = runF d s 300 0 (fun _ => 0) (h0, g, 0) → J 32 [.inr (.inr (46, 0)), .inl (Int32.ofInt g), .inl (Int32.ofInt (k : Int)), x3] [] σe := by
    intro n
    induction n with
    | zero =>
      intro k lp S σe x3 hk hn hne hc hme i40 i41 i650 i654 rn hlp hgd s0 s1 hR
      have mse : MSt σe s d := ⟨ms.1, fun q hq j hj => by rw [hc.1 _ _ _ (by unfold lvS2'; omega)]; exact ms.2 q hq j hj⟩
      have e10 : S.1 10 = (s : Int) := hgd.e10.trans h10
      rw [runF] at hR
      rw [← hR] at h
      refine hJ _ _ _ _ ?_
      conv => whnf
      refine ⟨(oi_in (by omega) (by omega)).mpr ⟨by omega, by omega⟩, ?_⟩
      conv => whnf
      rw [show (Int32.ofInt 10).toNatClampNeg = 10 from rfl, hme 10 (by omega)]
      rw [e10]
      refine ⟨fun c => ?_, fun c => ?_⟩ <;> (try simp (disch := omega) only [oi_le, oi_lt, oi_eq, oi_lt0, oi_le0, oi_0lt, oi_0le, oi_eq0, oi_eq1, bI_eq0, bI_ne0, bI_eq1, decide_eq_true_eq, decide_eq_false_iff_not, lc_lt, lc_gt, lc_eq, lc_ge, lc_le, ol_lt, ol_eq, ne_eq, Int.not_lt, Int.not_le, Bool.not_eq_true, Bool.not_eq_false, Decidable.not_not, not_true_eq_false, not_false_eq_true, Bool.true_eq_false, Bool.false_eq_true] at c) <;> (first | (exfalso; omega) | ((fail_if_success with_reducible refine hJ _ _ _ _ ?_); conv => whnf) | skip)
      · rw [decide_eq_false (by omega)] at h
        refine hJ _ _ _ _ ?_
        conv => whnf
        exact h σe hc hme i41 i650 rn i654
      · rw [decide_eq_true (by omega)] at h
        rw [i41]
        refine ⟨fun z => absurd rfl z, fun _ => ?_⟩
        conv => whnf
        refine ⟨(oi_in (by omega) (by omega)).mpr ⟨by omega, by omega⟩, ?_⟩
        conv => whnf
        rw [show (Int32.ofInt 4).toNatClampNeg = 4 from rfl]
        refine h _ (hc.tr (Ch.wI ⟨rfl, Or.inr (Or.inr (Or.inr rfl))⟩)) (hme.fr (fun j hj => by rw [wI1, if_neg (by omega)])) (by rw [wI1, if_neg (by omega), i41]) (by rw [wI1, if_neg (by omega), i650]) ?_ wI_16
        obtain ⟨r1, r2, r3⟩ := rn
        exact ⟨by rw [wI1, if_neg (by omega), r1], by rw [wI1, if_neg (by omega), r2], by rw [wI1, if_neg (by omega), r3]⟩
    | succ n ih =>
      intro k lp S σe x3 hk hn hne hc hme i40 i41 i650 i654 rn hlp hgd s0 s1 hR
      have mse : MSt σe s d := ⟨ms.1, fun q hq j hj => by rw [hc.1 _ _ _ (by unfold lvS2'; omega)]; exact ms.2 q hq j hj⟩
      have e10 : S.1 10 = (s : Int) := hgd.e10.trans h10
      rw [runF] at hR
      by_cases ks : k < s
      · rw [if_pos ks] at hR
        have ok := (wd.2.2.2.2 k ks).1
        have ko := kdC_or ok
        have kb : 11 ≤ d k 0 ∧ d k 0 ≤ 2000 := by omega
        clear ko
        have dg := doF_GD (f := d k) hgd rfl rfl ok s0 s1
        have m0 : σe.1 47 0 (97 + 6 * k) = Int32.ofInt (d k 0) := mse.2 k ks 0 (by omega)
        refine hJ _ _ _ _ ?_
        conv => whnf
        refine ⟨(oi_in (by omega) (by omega)).mpr ⟨by omega, by omega⟩, ?_⟩
        conv => whnf
        rw [show (Int32.ofInt 10).toNatClampNeg = 10 from rfl, hme 10 (by omega)]
        rw [e10]
        refine ⟨fun c => ?_, fun c => ?_⟩ <;> (try simp (disch := omega) only [oi_le, oi_lt, oi_eq, oi_lt0, oi_le0, oi_0lt, oi_0le, oi_eq0, oi_eq1, bI_eq0, bI_ne0, bI_eq1, decide_eq_true_eq, decide_eq_false_iff_not, lc_lt, lc_gt, lc_eq, lc_ge, lc_le, ol_lt, ol_eq, ne_eq, Int.not_lt, Int.not_le, Bool.not_eq_true, Bool.not_eq_false, Decidable.not_not, not_true_eq_false, not_false_eq_true, Bool.true_eq_false, Bool.false_eq_true] at c) <;> (first | (exfalso; omega) | ((fail_if_success with_reducible refine hJ _ _ _ _ ?_); conv => whnf) | skip)
        rw [i41]
        refine ⟨fun c2 => ?_, fun c2 => ?_⟩ <;> (try simp (disch := omega) only [oi_le, oi_lt, oi_eq, oi_lt0, oi_le0, oi_0lt, oi_0le, oi_eq0, oi_eq1, bI_eq0, bI_ne0, bI_eq1, decide_eq_true_eq, decide_eq_false_iff_not, lc_lt, lc_gt, lc_eq, lc_ge, lc_le, ol_lt, ol_eq, ne_eq, Int.not_lt, Int.not_le, Bool.not_eq_true, Bool.not_eq_false, Decidable.not_not, not_true_eq_false, not_false_eq_true, Bool.true_eq_false, Bool.false_eq_true] at c2) <;> (first | (exfalso; omega) | ((fail_if_success with_reducible refine hJ _ _ _ _ ?_); conv => whnf) | skip)
        refine hJ _ _ _ _ ?_
        conv => whnf
        rw [oi_mul, oi_add, i41, oi_add, show (97 + 6 * (k : Int)) = ((97 + 6 * k : Nat) : Int) by omega, show 300 - ((n + 1 : Nat) : Int) + 1 = 300 - (n : Int) by omega]
        refine ⟨(oi_in (by omega) (by omega)).mpr ⟨by omega, by omega⟩, ?_⟩
        conv => whnf
        rw [oi_nat (by omega) (by omega), Int.toNat_natCast, wI1, if_neg (by omega), m0]
        have hc1 : Ch lvS2' σ (wI σe 46 0 41 (Int32.ofInt (300 - (n : Int)))) := hc.tr (Ch.wI ⟨rfl, Or.inr (Or.inl ⟨rfl, by omega⟩)⟩)
        have ne1 : ∀ t q j, t ≠ 46 → (wI σe 46 0 41 (Int32.ofInt (300 - (n : Int)))).1 t q j = σe.1 t q j := fun t q j z => by rw [wI1, if_neg (by omega)]
        have rn1 : RaN (wI σe 46 0 41 (Int32.ofInt (300 - (n : Int)))) h0 S.1 := rn.cg (fun j => ne1 _ _ _ (by omega)) rfl rfl rfl
        refine ⟨fun c3 => ?_, fun c3 => ?_⟩ <;> (try simp (disch := omega) only [oi_le, oi_lt, oi_eq, oi_lt0, oi_le0, oi_0lt, oi_0le, oi_eq0, oi_eq1, bI_eq0, bI_ne0, bI_eq1, decide_eq_true_eq, decide_eq_false_iff_not, lc_lt, lc_gt, lc_eq, lc_ge, lc_le, ol_lt, ol_eq, ne_eq, Int.not_lt, Int.not_le, Bool.not_eq_true, Bool.not_eq_false, Decidable.not_not, not_true_eq_false, not_false_eq_true, Bool.true_eq_false, Bool.false_eq_true] at c3) <;> (first | (exfalso; omega) | ((fail_if_success with_reducible refine hJ _ _ _ _ ?_); conv => whnf) | skip)
        · rw [if_neg c3] at hR
          have ms1 : MSt (wI σe 46 0 41 (Int32.ofInt (300 - (n : Int)))) s d := ⟨ms.1, fun q hq j hj => by rw [ne1 _ _ _ (by omega)]; exact mse.2 q hq j hj⟩
          have nle := nxtF_le wd ks (doF (d k) S).1
          have eo := endsF_ok wd 3 (nxtF d k (doF (d k) S).1) (lpF d k lp) nle (wd.2.2.2.1 _ nle)
          refine hJ _ _ _ _ ?_
          conv => whnf
          refine ⟨(oi_in (by omega) (by omega)).mpr ⟨by omega, by omega⟩, ?_⟩
          conv => whnf
          rw [show (Int32.ofInt 0).toNatClampNeg = 0 from rfl, ne1 65 0 0 (by omega), i650]
          refine s_m_does hC (S := S) hme.fd hgd ms1 rfl rfl ok ks (by rw [wI1, if_neg (by omega), i40]) s0 s1 rn1 (fun σ2 k1 k2 k3 k4 => ?_)
          have hc2 : Ch lvS2' σ σ2 := hc1.tr (k4.mo (fun t q j z => by unfold dmS at z; unfold lvS2'; omega))
          have e41 : σ2.1 46 0 41 = Int32.ofInt (300 - (n : Int)) := by rw [k4.1 _ _ _ (by unfold dmS; omega), wI_16]
          have e654 : σ2.1 65 0 4 = Int32.ofInt 0 := by rw [k4.1 _ _ _ (by unfold dmS; omega), ne1 _ _ _ (by omega), i654]
          have ms2 : MSt σ2 s d := ⟨ms.1, fun q hq j hj => by rw [k4.1 _ _ _ (by unfold dmS; omega)]; exact ms1.2 q hq j hj⟩
          have m02 : σ2.1 47 0 (97 + 6 * k) = Int32.ofInt (d k 0) := ms2.2 k ks 0 (by omega)
          have m12 : σ2.1 47 0 (97 + 6 * k + 1) = Int32.ofInt (d k 1) := ms2.2 k ks 1 (by omega)
          have m42 : σ2.1 47 0 (97 + 6 * k + 4) = Int32.ofInt (d k 4) := ms2.2 k ks 4 (by omega)
          have e64 : ∀ j, σ2.1 64 0 j = σe.1 64 0 j := fun j => by rw [k4.1 _ _ _ (by unfold dmS; omega), ne1 _ _ _ (by omega)]
          have hw2 := dg.1.1.1
          -- from the next place on
          have at177 : ∀ (σ3 : AM), Ch (fun t q j => q = 0 ∧ ((t = 65 ∧ j = 0) ∨ (t = 64 ∧ j = k))) σ2 σ3 → σ3.1 65 0 0 = Int32.ofInt (doF (d k) S).2.2 → (∀ j, σ3.1 64 0 j = if d k 0 = 17 ∧ j = k then Int32.ofInt (d k 1 - 1) else σe.1 64 0 j) → ∀ x3 : AV, J 177 [.inr (.inr (46, 0)), .inl (Int32.ofInt g), .inl (Int32.ofInt (k : Int)), x3] [.inl (Int32.ofInt ((nxtF d k (doF (d k) S).1 : Nat) : Int)), .inr (.inr (46, 0))] σ3 := by
            intro σ3 c3' e650 e643 x3
            have hm3 : M0 σ3 (doF (d k) S).1 := k1.ch c3' (fun j hj => by omega)
            have ms3 : MSt σ3 s d := ⟨ms.1, fun q hq j hj => by rw [c3'.1 _ _ _ (by omega)]; exact ms2.2 q hq j hj⟩
            refine hJ _ _ _ _ ?_
            conv => whnf
            refine s_m_behindEnds hC (f := 3) (lp := lpF d k lp) hm3 (dg.1.e10.trans h10) ms3 wd nle (wd.2.2.2.1 _ nle) (fun o ho => ?_) (fun σ4 y1 y2 => ?_)
            · rcases LC.step wd ks ho with ⟨e1, e2⟩ | ⟨e1, e2⟩
              · subst e1
                have b17 := ok.c17 e2
                rw [e643, if_pos ⟨e2, rfl⟩, show lpF d o lp = up lp o (d o 1 - 1) from if_pos e2, up_eq]
                exact ⟨rfl, by omega, by omega⟩
              · rw [e643, if_neg (fun z => e1 z.2)]
                have elp : lpF d k lp o = lp o := by
                  unfold lpF
                  split
                  · exact up_ne e1
                  · rfl
                rw [elp]
                exact hlp o e2
            · conv => whnf
              have c4 : ∀ t q j, t ≠ 64 → ¬ (t = 65 ∧ q = 0 ∧ j = 0) → σ4.1 t q j = σ2.1 t q j := fun t q j z1 z2 => by rw [y1.1 _ _ _ (by omega), c3'.1 _ _ _ (by omega)]
              refine ih _ _ (doF (d k) S) σ4 _ eo.1 (by omega) eo.2 ((hc2.tr (c3'.mo (fun t q j z => by unfold lvS2'; omega))).tr (y1.mo (fun t q j z => by unfold lvS2'; omega))) (hm3.ch y1 (fun j hj => by omega)) (by rw [c4 _ _ _ (by omega) (by omega), k2]) (by rw [c4 _ _ _ (by omega) (by omega), e41]) (by rw [y1.1 _ _ _ (by omega), e650]) (by rw [c4 _ _ _ (by omega) (by omega), e654]) ?_ y2 dg.1 dg.2.1 dg.2.2.1 hR
              obtain ⟨r1, r2, r3⟩ := k3
              exact ⟨by rw [c4 _ _ _ (by omega) (by omega), r1], by rw [c4 _ _ _ (by omega) (by omega), r2], by rw [c4 _ _ _ (by omega) (by omega), r3]⟩
          have at140 : ∀ (σ3 : AM), Ch (fun t q j => q = 0 ∧ ((t = 65 ∧ j = 0) ∨ (t = 64 ∧ j = k))) σ2 σ3 → σ3.1 65 0 0 = Int32.ofInt (doF (d k) S).2.2 → (∀ j, σ3.1 64 0 j = if d k 0 = 17 ∧ j = k then Int32.ofInt (d k 1 - 1) else σe.1 64 0 j) → J 140 [.inr (.inr (46, 0)), .inl (Int32.ofInt g), .inl (Int32.ofInt (k : Int)), .inl (Int32.ofInt ((97 + 6 * k : Nat) : Int))] [] σ3 := by
            intro σ3 c3' e650 e643
            have hm3 : M0 σ3 (doF (d k) S).1 := k1.ch c3' (fun j hj => by omega)
            have ms3 : MSt σ3 s d := ⟨ms.1, fun q hq j hj => by rw [c3'.1 _ _ _ (by omega)]; exact ms2.2 q hq j hj⟩
            have m03 : σ3.1 47 0 (97 + 6 * k) = Int32.ofInt (d k 0) := ms3.2 k ks 0 (by omega)
            have m43 : σ3.1 47 0 (97 + 6 * k + 4) = Int32.ofInt (d k 4) := ms3.2 k ks 4 (by omega)
            have usual : nxtF d k (doF (d k) S).1 = k + 1 → J 174 [.inr (.inr (46, 0)), .inl (Int32.ofInt g), .inl (Int32.ofInt (k : Int)), .inl (Int32.ofInt ((97 + 6 * k : Nat) : Int))] [.inr (.inr (46, 0))] σ3 := by
              intro en
              have := at177 σ3 c3' e650 e643
              rw [en] at this
              refine hJ _ _ _ _ ?_
              conv => whnf
              rw [oi_succ]
              exact this _
            refine hJ _ _ _ _ ?_
            conv => whnf
            refine ⟨(oi_in (by omega) (by omega)).mpr ⟨by omega, by omega⟩, ?_⟩
            conv => whnf
            rw [oi_nat (by omega) (by omega), Int.toNat_natCast, m03]
            refine ⟨fun c5 => ?_, fun c5 => ?_⟩ <;> (try simp (disch := omega) only [oi_le, oi_lt, oi_eq, oi_lt0, oi_le0, oi_0lt, oi_0le, oi_eq0, oi_eq1, bI_eq0, bI_ne0, bI_eq1, decide_eq_true_eq, decide_eq_false_iff_not, lc_lt, lc_gt, lc_eq, lc_ge, lc_le, ol_lt, ol_eq, ne_eq, Int.not_lt, Int.not_le, Bool.not_eq_true, Bool.not_eq_false, Decidable.not_not, not_true_eq_false, not_false_eq_true, Bool.true_eq_false, Bool.false_eq_true] at c5) <;> (first | (exfalso; omega) | ((fail_if_success with_reducible refine hJ _ _ _ _ ?_); conv => whnf) | skip)
            · exact usual (nxtF_1 (by omega))
            · refine s_m_holds hC hm3 hw2 ms3 ok (dg.1.2.2.1) (dg.1.2.2.2.1) ks (by omega) ?_
              conv => whnf
              refine ⟨fun c6 => ?_, fun c6 => ?_⟩ <;> (try simp (disch := omega) only [oi_le, oi_lt, oi_eq, oi_lt0, oi_le0, oi_0lt, oi_0le, oi_eq0, oi_eq1, bI_eq0, bI_ne0, bI_eq1, decide_eq_true_eq, decide_eq_false_iff_not, lc_lt, lc_gt, lc_eq, lc_ge, lc_le, ol_lt, ol_eq, ne_eq, Int.not_lt, Int.not_le, Bool.not_eq_true, Bool.not_eq_false, Decidable.not_not, not_true_eq_false, not_false_eq_true, Bool.true_eq_false, Bool.false_eq_true] at c6) <;> (first | (exfalso; omega) | ((fail_if_success with_reducible refine hJ _ _ _ _ ?_); conv => whnf) | skip)
              · exact usual (if_neg (by rw [c6]; simp))
              · have en : nxtF d k (doF (d k) S).1 = (d k 4).toNat + 1 := if_pos ⟨by omega, c6⟩
                obtain ⟨-, e, y2, y3, y4, -⟩ := wd.op ks (Or.inr (by omega))
                rw [oi_add]
                refine ⟨(oi_in (by omega) (by omega)).mpr ⟨by omega, by omega⟩, ?_⟩
                conv => whnf
                rw [oi_nat (by omega) (by omega), show (((97 + 6 * k : Nat) : Int) + 4).toNat = 97 + 6 * k + 4 by omega, m43, oi_add]
                have := at177 σ3 c3' e650 e643
                rw [en] at this
                rw [show d k 4 + 1 = (((d k 4).toNat + 1 : Nat) : Int) by omega]
                exact this _
          have at111 : ∀ v : Int, S.2.2 + v = (doF (d k) S).2.2 → J 111 [.inr (.inr (46, 0)), .inl (Int32.ofInt g), .inl (Int32.ofInt (k : Int)), .inl (Int32.ofInt ((97 + 6 * k : Nat) : Int))] [.inl (Int32.ofInt v), .inl (Int32.ofInt S.2.2), .inl (Int32.ofInt 0), .inr (.inr (65, 0))] σ2 := by
            intro v hv
            refine hJ _ _ _ _ ?_
            conv => whnf
            rw [oi_add, hv]
            refine ⟨(oi_in (by omega) (by omega)).mpr ⟨by omega, by omega⟩, ?_⟩
            conv => whnf
            rw [show (Int32.ofInt 0).toNatClampNeg = 0 from rfl]
            refine ⟨(oi_in (by omega) (by omega)).mpr ⟨by omega, by omega⟩, ?_⟩
            conv => whnf
            rw [oi_nat (by omega) (by omega), Int.toNat_natCast, wI1, if_neg (by omega), m02]
            refine ⟨fun c5 => ?_, fun c5 => ?_⟩ <;> (try simp (disch := omega) only [oi_le, oi_lt, oi_eq, oi_lt0, oi_le0, oi_0lt, oi_0le, oi_eq0, oi_eq1, bI_eq0, bI_ne0, bI_eq1, decide_eq_true_eq, decide_eq_false_iff_not, lc_lt, lc_gt, lc_eq, lc_ge, lc_le, ol_lt, ol_eq, ne_eq, Int.not_lt, Int.not_le, Bool.not_eq_true, Bool.not_eq_false, Decidable.not_not, not_true_eq_false, not_false_eq_true, Bool.true_eq_false, Bool.false_eq_true] at c5) <;> (first | (exfalso; omega) | ((fail_if_success with_reducible refine hJ _ _ _ _ ?_); conv => whnf) | skip)
            · exact at140 _ (Ch.wI ⟨rfl, Or.inl ⟨rfl, rfl⟩⟩) wI_16 (fun j => by rw [if_neg (fun z => c5 z.1), wI1, if_neg (by omega), e64])
            · rw [oi_succ]
              refine ⟨(oi_in (by omega) (by omega)).mpr ⟨by omega, by omega⟩, ?_⟩
              conv => whnf
              rw [oi_nat (by omega) (by omega), oi_nat (by omega) (by omega), Int.toNat_natCast, Int.toNat_natCast, wI1, if_neg (by omega), m12, oi_sub]
              refine ⟨(oi_in (by omega) (by omega)).mpr ⟨by omega, by omega⟩, ?_⟩
              conv => whnf
              refine at140 _ ((Ch.wI ⟨rfl, Or.inl ⟨rfl, rfl⟩⟩).tr (Ch.wI ⟨rfl, Or.inr ⟨rfl, rfl⟩⟩)) (by rw [wI1, if_neg (by omega), wI_16]) (fun j => ?_)
              rw [wI1]
              by_cases ej : j = k
              · rw [if_pos ⟨rfl, rfl, ej⟩, if_pos ⟨c5, ej⟩]
              · rw [if_neg (by omega), if_neg (fun z => ej z.2), wI1, if_neg (by omega), e64]
          conv => whnf
          have b1 := dg.2.2.2.1
          have b2 := dg.2.2.2.2
          refine ⟨fun c4 => ?_, fun c4 => ?_⟩ <;> (try simp (disch := omega) only [oi_le, oi_lt, oi_eq, oi_lt0, oi_le0, oi_0lt, oi_0le, oi_eq0, oi_eq1, bI_eq0, bI_ne0, bI_eq1, decide_eq_true_eq, decide_eq_false_iff_not, lc_lt, lc_gt, lc_eq, lc_ge, lc_le, ol_lt, ol_eq, ne_eq, Int.not_lt, Int.not_le, Bool.not_eq_true, Bool.not_eq_false, Decidable.not_not, not_true_eq_false, not_false_eq_true, Bool.true_eq_false, Bool.false_eq_true] at c4) <;> (first | (exfalso; omega) | ((fail_if_success with_reducible refine hJ _ _ _ _ ?_); conv => whnf) | skip)
          · refine hJ _ _ _ _ ?_
            conv => whnf
            exact at111 1 (by omega)
          · exact at111 0 (by omega)
        · rw [if_pos c3] at hR
          rw [← hR] at h
          exact h _ hc1 hme.fd wI_16 (by rw [ne1 _ _ _ (by omega), i650]) rn1 (by rw [ne1 _ _ _ (by omega), i654]; rfl)
      · rw [if_neg ks] at hR
        rw [← hR] at h
        refine hJ _ _ _ _ ?_
        conv => whnf
        refine ⟨(oi_in (by omega) (by omega)).mpr ⟨by omega, by omega⟩, ?_⟩
        conv => whnf
        rw [show (Int32.ofInt 10).toNatClampNeg = 10 from rfl, hme 10 (by omega)]
        rw [e10]
        refine ⟨fun c => ?_, fun c => ?_⟩ <;> (try simp (disch := omega) only [oi_le, oi_lt, oi_eq, oi_lt0, oi_le0, oi_0lt, oi_0le, oi_eq0, oi_eq1, bI_eq0, bI_ne0, bI_eq1, decide_eq_true_eq, decide_eq_false_iff_not, lc_lt, lc_gt, lc_eq, lc_ge, lc_le, ol_lt, ol_eq, ne_eq, Int.not_lt, Int.not_le, Bool.not_eq_true, Bool.not_eq_false, Decidable.not_not, not_true_eq_false, not_false_eq_true, Bool.true_eq_false, Bool.false_eq_true] at c) <;> (first | (exfalso; omega) | ((fail_if_success with_reducible refine hJ _ _ _ _ ?_); conv => whnf) | skip)
        refine hJ _ _ _ _ ?_
        conv => whnf
        exact h σe hc hme i41 i650 rn i654
  have init : ∀ (c i : Nat) (σi : AM) (x3 : AV), i + c = 5 → Ch (fun t q j => q = 0 ∧ (t = 65 ∨ (t = 46 ∧ (j = 40 ∨ j = 41)))) σ σi → σi.1 46 0 40 = Int32.ofInt g → σi.1 46 0 41 = Int32.ofInt 0 → (∀ j, j < i → σi.1 65 0 j = Int32.ofInt 0) → J 12 [.inr (.inr (46, 0)), .inl (Int32.ofInt g), .inl (Int32.ofInt (i : Int)), x3] [] σi := by
    intro c
    induction c with
    | zero =>
      intro i σi x3 hi hc e40 e41 e65
      refine hJ _ _ _ _ ?_
      conv => whnf
      refine ⟨fun c2 => ?_, fun c2 => ?_⟩ <;> (try simp (disch := omega) only [oi_le, oi_lt, oi_eq, oi_lt0, oi_le0, oi_0lt, oi_0le, oi_eq0, oi_eq1, bI_eq0, bI_ne0, bI_eq1, decide_eq_true_eq, decide_eq_false_iff_not, lc_lt, lc_gt, lc_eq, lc_ge, lc_le, ol_lt, ol_eq, ne_eq, Int.not_lt, Int.not_le, Bool.not_eq_true, Bool.not_eq_false, Decidable.not_not, not_true_eq_false, not_false_eq_true, Bool.true_eq_false, Bool.false_eq_true] at c2) <;> (first | (exfalso; omega) | ((fail_if_success with_reducible refine hJ _ _ _ _ ?_); conv => whnf) | skip)
      refine hJ _ _ _ _ ?_
      conv => whnf
      refine main 300 0 (fun _ => 0) (h0, g, 0) σi _ (by omega) (by omega) (fun hs h18 => ?_) (hc.mo (fun t q j z => by unfold lvS2'; omega)) (hm.ch hc (fun j hj => by omega)) e40 (by rw [e41]; rfl) (e65 0 (by omega)) (e65 4 (by omega)) ⟨by rw [e65 1 (by omega), Int.sub_self], by rw [e65 2 (by omega), Int.sub_self], by rw [e65 3 (by omega), Int.sub_self]⟩ (fun o ho => by have := ho.2.1; omega) ⟨hwp, h59, rfl, rfl, rfl, fun _ => rfl⟩ g0 g1 rfl
      have := (wd.en hs h18).1
      have := wd.2.1
      omega
    | succ c ih =>
      intro i σi x3 hi hc e40 e41 e65
      refine hJ _ _ _ _ ?_
      conv => whnf
      refine ⟨fun c2 => ?_, fun c2 => ?_⟩ <;> (try simp (disch := omega) only [oi_le, oi_lt, oi_eq, oi_lt0, oi_le0, oi_0lt, oi_0le, oi_eq0, oi_eq1, bI_eq0, bI_ne0, bI_eq1, decide_eq_true_eq, decide_eq_false_iff_not, lc_lt, lc_gt, lc_eq, lc_ge, lc_le, ol_lt, ol_eq, ne_eq, Int.not_lt, Int.not_le, Bool.not_eq_true, Bool.not_eq_false, Decidable.not_not, not_true_eq_false, not_false_eq_true, Bool.true_eq_false, Bool.false_eq_true] at c2) <;> (first | (exfalso; omega) | ((fail_if_success with_reducible refine hJ _ _ _ _ ?_); conv => whnf) | skip)
      refine ⟨(oi_in (by omega) (by omega)).mpr ⟨by omega, by omega⟩, ?_⟩
      conv => whnf
      rw [oi_nat (by omega) (by omega), Int.toNat_natCast, oi_succ]
      refine ih (i + 1) _ _ (by omega) (hc.tr (Ch.wI ⟨rfl, Or.inl rfl⟩)) (by rw [wI1, if_neg (by omega), e40]) (by rw [wI1, if_neg (by omega), e41]) (fun j hj => ?_)
      rw [wI1]
      by_cases e : j = i
      · rw [if_pos ⟨rfl, rfl, e⟩]
      · rw [if_neg (by omega)]; exact e65 j (by omega)
  exact init 5 0 _ _ (by omega) ((Ch.wI ⟨rfl, Or.inr ⟨rfl, Or.inl rfl⟩⟩).tr (Ch.wI ⟨rfl, Or.inr ⟨rfl, Or.inr rfl⟩⟩)) (by rw [wI1, if_neg (by omega), wI_16]) wI_16 (fun j hj => by omega)
