theorem m_old {CALL : CT} (hC : RuleAll CALL) {r : Nat} {σ : AM} {K : AV → AM → Prop} {B : Nat → Int} {L f c base to : Nat} {tn : Nat → List Nat} {k : Nat → Nat → Rz} (ha : AMo σ B L f) (hb : base + c ≤ 78) (ht : ∀ t, t < c → WordOk (tn t) ∧ σ.2.1 48 0 (base + t) = Int64.ofInt ((enc8 (tn t) : Nat) : Int)) (to1 : 1860 ≤ to) (to2 : to < 2325) (h1 : ∀ (t : Nat) (σ' : AM), t < c → isNm B L f = true → fnW tn c (wdH B L f) = some t → AMo σ' B L (nxT B L f) → Ch (fun t q j => tmS t q j ∨ (t = 47 ∧ q = 0 ∧ j = to)) σ σ' → σ'.1 47 0 to = Int32.ofInt (t : Int) → rOld B L tn c f k = k t (nxT B L f) → K (.inl (Int32.ofInt 1)) σ') (h2 : ∀ σ' : AM, OM σ' B L (rOld B L tn c f k) false → ChA mnS mnL σ σ' → K (.inl (Int32.ofInt 0)) σ') : CALL (r + 4) n_m_oldOne [.inr (.inr (46, 0)), .inl (Int32.ofInt (base : Int)), .inl (Int32.ofInt (c : Int)), .inl (Int32.ofInt (to : Int))] σ K := by
  refine r_m_oldOne hC (fun J hJ => ?_)
  refine hJ _ _ _ _ ?_
  conv => whnf
  have fb := fnW_bd tn c (wdH B L f)
  refine s_m_isNm hC ha ?_
  conv => whnf
  refine ⟨fun c2 => ?_, fun c2 => ?_⟩ <;> (try simp (disch := omega) only [oi_le, oi_lt, oi_eq, oi_lt0, oi_le0, oi_0lt, oi_0le, oi_eq0, oi_eq1, bI_eq0, bI_ne0, bI_eq1, decide_eq_true_eq, decide_eq_false_iff_not, lc_lt, lc_gt, lc_eq, lc_ge, lc_le, ol_lt, ol_eq, ne_eq, Int.not_lt, Int.not_le, Bool.not_eq_true, Bool.not_eq_false, Decidable.not_not, not_true_eq_false, not_false_eq_true, Bool.true_eq_false, Bool.false_eq_true] at c2) <;> (first | (exfalso; omega) | ((with_reducible refine hJ _ _ _ _ ?_); conv => whnf) | (conv => whnf))
  · refine s_m_findHere hC ha c2 hb ht ?_
    conv => whnf
    refine ⟨(oi_in (by omega) (by omega)).mpr ⟨by omega, by omega⟩, ?_⟩
    conv => whnf
    rw [oi_nat (by omega) (by omega), Int.toNat_natCast]
    refine ⟨(oi_in (by omega) (by omega)).mpr ⟨by omega, by omega⟩, ?_⟩
    conv => whnf
    rw [wI_16]
    have ha1 : AMo (wI σ 47 0 to (Int32.ofInt (opI (fnW tn c (wdH B L f))))) B L f := ha.ch (S := fun t _ _ => t = 47) (fun t q j z => by rw [wI1, if_neg (fun y => z y.1)]) (fun j _ _ z => by omega) (fun j z => by omega)
    refine ⟨fun c3 => ?_, fun c3 => ?_⟩ <;> (try simp (disch := omega) only [oi_le, oi_lt, oi_eq, oi_lt0, oi_le0, oi_0lt, oi_0le, oi_eq0, oi_eq1, bI_eq0, bI_ne0, bI_eq1, decide_eq_true_eq, decide_eq_false_iff_not, lc_lt, lc_gt, lc_eq, lc_ge, lc_le, ol_lt, ol_eq, ne_eq, Int.not_lt, Int.not_le, Bool.not_eq_true, Bool.not_eq_false, Decidable.not_not, not_true_eq_false, not_false_eq_true, Bool.true_eq_false, Bool.false_eq_true] at c3) <;> (first | (exfalso; omega) | ((with_reducible refine hJ _ _ _ _ ?_); conv => whnf) | (conv => whnf))
    · refine s_m_adv hC ha1 (fun σ' k1 k2 => ?_)
      conv => whnf
      cases ef : fnW tn c (wdH B L f) with
      | none => rw [ef] at c3; exact absurd rfl c3
      | some t =>
        rw [ef] at k2
        refine ⟨Or.inr rfl, h1 t σ' (fnW_lt ef) c2 ef k1 ((Ch.wI (Or.inr ⟨rfl, rfl, rfl⟩)).tr (k2.mo (fun _ _ _ z => Or.inl z))) ?_ ?_⟩
        · rw [k2.1 _ _ _ (by unfold tmS; omega), wI_16]
          rfl
        · unfold rOld
          rw [if_neg (by rw [c2]; decide), ef]
    · refine s_m_fails hC ha1.2.2.1 ha1.2.2.2 ?_
      conv => whnf
      refine ⟨Or.inl rfl, h2 _ ?_ ((ChA.wI (Or.inr ⟨rfl, rfl, to1, to2⟩)).tr fM_mn)⟩
      unfold rOld
      rw [if_neg (by rw [c2]; decide), fb.2.2.1.mp c3]
      exact OM.fl (by omega) (by omega)
  · refine s_m_fails hC ha.2.2.1 ha.2.2.2 ?_
    conv => whnf
    refine ⟨Or.inl rfl, h2 _ ?_ fM_mn⟩
    unfold rOld
    rw [if_pos c2]
    exact OM.fl (by omega) (by omega)
/-- a topic's number to a cell -/
theorem m_ott {CALL : CT} (hC : RuleAll CALL) {r : Nat} {σ : AM} {K : AV → AM → Prop} {B : Nat → Int} {L to : Nat} {S T : PS} {x : Int} {k : Nat → Nat → Rz} (hm : MR σ B L T) (hp : PI L S) (e0 : T.2.1 0 = S.2.1 0) (en : T.2.2.1 = S.2.2.1) (hx : x = (to : Int)) (to1 : 1860 ≤ to) (to2 : to < 2325) (h1 : ∀ (t : Nat) (σ' : AM), t < (S.2.1 0).toNat → isNm B L T.1 = true → fnW S.2.2.1 (S.2.1 0).toNat (wdH B L T.1) = some t → AMo σ' B L (nxT B L T.1) → Ch (fun t q j => tmS t q j ∨ (t = 47 ∧ q = 0 ∧ j = to)) σ σ' → σ'.1 47 0 to = Int32.ofInt (t : Int) → rOld B L S.2.2.1 (S.2.1 0).toNat T.1 k = k t (nxT B L T.1) → K (.inl (Int32.ofInt 1)) σ') (h2 : ∀ σ' : AM, OM σ' B L (rOld B L S.2.2.1 (S.2.1 0).toNat T.1 k) false → ChA mnS mnL σ σ' → K (.inl (Int32.ofInt 0)) σ') : CALL (r + 5) n_m_newTopicTo [.inr (.inr (46, 0)), .inl (Int32.ofInt x)] σ K := by
  refine r_m_newTopicTo hC (fun J hJ => ?_)
  refine hJ _ _ _ _ ?_
  conv => whnf
  have b := hp.wf.1
  refine ⟨(oi_in (by omega) (by omega)).mpr ⟨by omega, by omega⟩, ?_⟩
  conv => whnf
  rw [show (Int32.ofInt 1860).toNatClampNeg = 1860 from rfl, show σ.1 47 0 1860 = Int32.ofInt (((S.2.1 0).toNat : Nat) : Int) by rw [Int.toNat_of_nonneg (by omega), ← e0]; exact hm.2.1 0 (by omega), hx]
  refine m_old hC (c := (S.2.1 0).toNat) (base := 52) (tn := S.2.2.1) (k := k) hm.1 (by omega) (fun t ht => ⟨(hp.tw t (by omega)).1, by rw [← en]; exact hm.2.2.1 t (by omega)⟩) to1 to2 (fun t σ' a1 a2 a3 a4 a5 a6 a7 => ?_) (fun σ' a1 a2 => ?_)
  · conv => whnf
    exact ⟨Or.inr rfl, h1 t σ' a1 a2 a3 a4 a5 a6 a7⟩
  · conv => whnf
    exact ⟨Or.inl rfl, h2 σ' a1 a2⟩
theorem m_omt {CALL : CT} (hC : RuleAll CALL) {r : Nat} {σ : AM} {K : AV → AM → Prop} {B : Nat → Int} {L to : Nat} {S T : PS} {x : Int} {k : Nat → Nat → Rz} (hm : MR σ B L T) (hp : PI L S) (e1 : T.2.1 1 = S.2.1 1) (en : T.2.2.2.1 = S.2.2.2.1) (hx : x = (to : Int)) (to1 : 1860 ≤ to) (to2 : to < 2325) (h1 : ∀ (t : Nat) (σ' : AM), t < (S.2.1 1).toNat → isNm B L T.1 = true → fnW S.2.2.2.1 (S.2.1 1).toNat (wdH B L T.1) = some t → AMo σ' B L (nxT B L T.1) → Ch (fun t q j => tmS t q j ∨ (t = 47 ∧ q = 0 ∧ j = to)) σ σ' → σ'.1 47 0 to = Int32.ofInt (t : Int) → rOld B L S.2.2.2.1 (S.2.1 1).toNat T.1 k = k t (nxT B L T.1) → K (.inl (Int32.ofInt 1)) σ') (h2 : ∀ σ' : AM, OM σ' B L (rOld B L S.2.2.2.1 (S.2.1 1).toNat T.1 k) false → ChA mnS mnL σ σ' → K (.inl (Int32.ofInt 0)) σ') : CALL (r + 5) n_m_newMonkTo [.inr (.inr (46, 0)), .inl (Int32.ofInt x)] σ K := by
  refine r_m_newMonkTo hC (fun J hJ => ?_)
  refine hJ _ _ _ _ ?_
  conv => whnf
  have b := hp.wf.1
  refine ⟨(oi_in (by omega) (by omega)).mpr ⟨by omega, by omega⟩, ?_⟩
  conv => whnf
  rw [show (Int32.ofInt 1861).toNatClampNeg = 1861 from rfl, show σ.1 47 0 1861 = Int32.ofInt (((S.2.1 1).toNat : Nat) : Int) by rw [Int.toNat_of_nonneg (by omega), ← e1]; exact hm.2.1 1 (by omega), hx]
  refine m_old hC (c := (S.2.1 1).toNat) (base := 58) (tn := S.2.2.2.1) (k := k) hm.1 (by omega) (fun t ht => ⟨(hp.mw t (by omega)).1, by rw [← en]; exact hm.2.2.2.1 t (by omega)⟩) to1 to2 (fun t σ' a1 a2 a3 a4 a5 a6 a7 => ?_) (fun σ' a1 a2 => ?_)
  · conv => whnf
    exact ⟨Or.inr rfl, h1 t σ' a1 a2 a3 a4 a5 a6 a7⟩
  · conv => whnf
    exact ⟨Or.inl rfl, h2 σ' a1 a2⟩
