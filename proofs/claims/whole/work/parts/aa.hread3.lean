theorem kmC_bd2 (B : Nat → Int) (L f : Nat) : -1 ≤ kmC (kwT B L f) ∧ kmC (kwT B L f) ≤ 22 := by
  have kwb := kwT_bd B L f
  by_cases z : kwT B L f < 0
  · rw [show kmC (kwT B L f) = -1 from if_pos z]; omega
  · obtain ⟨m, em⟩ : ∃ m : Nat, kwT B L f = (m : Int) := ⟨(kwT B L f).toNat, by omega⟩
    have : 0 ≤ kmC (m : Int) ∧ kmC (m : Int) ≤ 22 := kmC_bd ⟨m, by omega⟩
    rw [em]; omega
theorem PI.wf {L : Nat} {S : PS} (h : PI L S) : WF S.2.1 := h.2.1.1
theorem PI.tw {L : Nat} {S : PS} (h : PI L S) : ∀ t : Nat, (t : Int) < S.2.1 0 → WordOk (S.2.2.1 t) ∧ kwI (S.2.2.1 t) = none := h.2.2.2.2.2.2.2.2.2.2.2.1
theorem PI.mw {L : Nat} {S : PS} (h : PI L S) : ∀ t : Nat, (t : Int) < S.2.1 1 → WordOk (S.2.2.2.1 t) ∧ kwI (S.2.2.2.1 t) = none := h.2.2.2.2.2.2.2.2.2.2.2.2.1
theorem PI.z13 {L : Nat} {S : PS} (h : PI L S) : ∀ t : Nat, S.2.1 0 ≤ (t : Int) → t < 6 → S.2.1 (13 + 2 * t) = 0 := h.2.2.2.2.2.2.2.2.1
theorem PI.z28 {L : Nat} {S : PS} (h : PI L S) : ∀ m w : Nat, S.2.1 1 ≤ (m : Int) → m < 7 → 4 ≤ w → w < 7 → S.2.1 (24 + w + 7 * m) = 0 := h.2.2.2.2.2.2.2.2.2.1
/-- the word that stands there, among the topics -/
theorem c_tf {CALL : CT} (hC : RuleAll CALL) {r : Nat} {σ : AM} {K : AV → AM → Prop} {B : Nat → Int} {L q : Nat} {S : PS} {f : Nat} (hc : CR σ B L q (f, S.2)) (hp : PI L S) (h : ∀ x : Int, -1 ≤ x → x ≤ 100 → (isNm B L f = true → x = opI (fnW S.2.2.1 (S.2.1 0).toNat (wdH B L f))) → (isNm B L f = false → x = -1) → K (.inl (Int32.ofInt x)) σ) : CALL (r + 1) n_Topics_find [.inr (.inr (23, q)), .inr (.inl (σ.2.1 3 0 9))] σ K := by
  obtain ⟨h1, h2, h3, h4, h5, h6, h7, h8⟩ := id hc
  have b0 : 0 ≤ S.2.1 0 := hp.wf.1.1
  have b1 : S.2.1 0 ≤ 6 := hp.wf.1.2.1
  refine s_tfind hC (c := (S.2.1 0).toNat) (by rw [h2.1, Int.toNat_of_nonneg b0]) (by omega) ?_
  rw [show σ.2.1 3 0 9 = Int64.ofInt (nmT B L f) from h1.2.2.2.2.2.2.2.2.1]
  have cf := cfind (B := B) (L := L) (f := f) (c := (S.2.1 0).toNat) (tn := S.2.2.1) (nm := fun t => σ.2.1 24 q t) h1.2.2.2.1 (fun t ht => ⟨(hp.tw t (by omega)).1, h3 t (by show (t : Int) < S.2.1 0; omega)⟩)
  have fb := fnW_bd S.2.2.1 (S.2.1 0).toNat (wdH B L f)
  cases e : isNm B L f with
  | true =>
    rw [cf.1 e]
    exact h _ fb.1 (by omega) (fun _ => rfl) (fun z => by rw [e] at z; cases z)
  | false =>
    rw [cf.2 (fun t ht => (hp.tw t (by omega)).2) e]
    exact h _ (by decide) (by decide) (fun z => by rw [e] at z; cases z) (fun _ => rfl)
theorem c_mf {CALL : CT} (hC : RuleAll CALL) {r : Nat} {σ : AM} {K : AV → AM → Prop} {B : Nat → Int} {L q : Nat} {S : PS} {f : Nat} (hc : CR σ B L q (f, S.2)) (hp : PI L S) (h : ∀ x : Int, -1 ≤ x → x ≤ 100 → (isNm B L f = true → x = opI (fnW S.2.2.2.1 (S.2.1 1).toNat (wdH B L f))) → (isNm B L f = false → x = -1) → K (.inl (Int32.ofInt x)) σ) : CALL (r + 1) n_Monks_find [.inr (.inr (27, q)), .inr (.inl (σ.2.1 3 0 9))] σ K := by
  obtain ⟨h1, h2, h3, h4, h5, h6, h7, h8⟩ := id hc
  have b0 : 0 ≤ S.2.1 1 := hp.wf.1.2.2.1
  have b1 : S.2.1 1 ≤ 7 := hp.wf.1.2.2.2.1
  refine s_mfind hC (c := (S.2.1 1).toNat) (by rw [h2.2.1, Int.toNat_of_nonneg b0]) (by omega) ?_
  rw [show σ.2.1 3 0 9 = Int64.ofInt (nmT B L f) from h1.2.2.2.2.2.2.2.2.1]
  have cf := cfind (B := B) (L := L) (f := f) (c := (S.2.1 1).toNat) (tn := S.2.2.2.1) (nm := fun t => σ.2.1 28 q t) h1.2.2.2.1 (fun t ht => ⟨(hp.mw t (by omega)).1, h4 t (by show (t : Int) < S.2.1 1; omega)⟩)
  have fb := fnW_bd S.2.2.2.1 (S.2.1 1).toNat (wdH B L f)
  cases e : isNm B L f with
  | true =>
    rw [cf.1 e]
    exact h _ fb.1 (by omega) (fun _ => rfl) (fun z => by rw [e] at z; cases z)
  | false =>
    rw [cf.2 (fun t ht => (hp.mw t (by omega)).2) e]
    exact h _ (by decide) (by decide) (fun z => by rw [e] at z; cases z) (fun _ => rfl)
/-- a name that is new -/
theorem c_new {CALL : CT} (hC : RuleAll CALL) {r : Nat} {σ : AM} {K : AV → AM → Prop} {B : Nat → Int} {L q f : Nat} {S : PS} {k : Nat → Rz} (hc : CR σ B L q (f, S.2)) (hp : PI L S) (h1 : ∀ σ' : AM, isNm B L f = true → AC σ' B L (nxT B L f) → ChA tkS tkL σ σ' → rNew B L S f k = k (nxT B L f) → K (.inr (.inl (Int64.ofInt ((enc5 (wdH B L f) : Nat) : Int)))) σ') (h2 : ∀ σ' : AM, OC σ' B L q (rNew B L S f k) false → ChA (hrS q) (hrL q) σ σ' → K (.inr (.inl (Int64.ofInt 0))) σ') : CALL (r + 3) n_HouseReader_takeNewName [.inr (.inr (6, 0))] σ K := by
  refine r_HouseReader_takeNewName hC (fun J hJ => ?_)
  refine hJ _ _ _ _ ?_
  conv => whnf
  have ha : AC σ B L f := hc.1
  have e9 : σ.2.1 3 0 9 = Int64.ofInt (nmT B L f) := ha.2.2.2.2.2.2.2.2.1
  have ft := fnW_bd S.2.2.1 (S.2.1 0).toNat (wdH B L f)
  have fm := fnW_bd S.2.2.2.1 (S.2.1 1).toNat (wdH B L f)
  refine s_isNm hC ha ?_
  conv => whnf
  refine ⟨fun c => ?_, fun c => ?_⟩ <;> (try simp (disch := omega) only [oi_le, oi_lt, oi_eq, oi_lt0, oi_le0, oi_0lt, oi_0le, oi_eq0, oi_eq1, bI_eq0, bI_ne0, bI_eq1, decide_eq_true_eq, decide_eq_false_iff_not, lc_lt, lc_gt, lc_eq, lc_ge, lc_le, ol_lt, ol_eq, ne_eq, Int.not_lt, Int.not_le, Bool.not_eq_true, Bool.not_eq_false, Decidable.not_not, not_true_eq_false, not_false_eq_true, Bool.true_eq_false, Bool.false_eq_true] at c) <;> (first | (exfalso; omega) | ((with_reducible refine hJ _ _ _ _ ?_); conv => whnf) | (conv => whnf))
  · rw [hc.2.2.2.2.1]
    refine ⟨hc.2.2.2.2.2.1, ?_⟩
    conv => whnf
    have bad : (fnW S.2.2.1 (S.2.1 0).toNat (wdH B L f) ≠ none ∨ fnW S.2.2.2.1 (S.2.1 1).toNat (wdH B L f) ≠ none) → J 59 [.inr (.inr (6, 0)), .inr (.inl (σ.2.1 3 0 9)), unset] [] σ := by
      intro z
      refine hJ _ _ _ _ ?_
      conv => whnf
      refine s_fail hC ha.2.2.2 ?_
      conv => whnf
      refine h2 _ ?_ fC_hr
      unfold rNew
      rw [if_neg (by rw [c]; decide), if_pos z]
      exact OC.fl
    refine c_tf hC hc hp (fun x x1 x2 x3 _ => ?_)
    conv => whnf
    have x3 := x3 c
    refine ⟨fun c2 => ?_, fun c2 => ?_⟩ <;> (try simp (disch := omega) only [oi_le, oi_lt, oi_eq, oi_lt0, oi_le0, oi_0lt, oi_0le, oi_eq0, oi_eq1, bI_eq0, bI_ne0, bI_eq1, decide_eq_true_eq, decide_eq_false_iff_not, lc_lt, lc_gt, lc_eq, lc_ge, lc_le, ol_lt, ol_eq, ne_eq, Int.not_lt, Int.not_le, Bool.not_eq_true, Bool.not_eq_false, Decidable.not_not, not_true_eq_false, not_false_eq_true, Bool.true_eq_false, Bool.false_eq_true] at c2) <;> (first | (exfalso; omega) | ((fail_if_success with_reducible refine hJ _ _ _ _ ?_); conv => whnf) | skip)
    · exact bad (Or.inl (fun z => c2 (x3.trans (ft.2.2.1.mpr z))))
    · rw [hc.2.2.2.2.1]
      refine ⟨hc.2.2.2.2.2.1, ?_⟩
      conv => whnf
      refine c_mf hC hc hp (fun y y1 y2 y3 _ => ?_)
      conv => whnf
      have y3 := y3 c
      refine ⟨fun c3 => ?_, fun c3 => ?_⟩ <;> (try simp (disch := omega) only [oi_le, oi_lt, oi_eq, oi_lt0, oi_le0, oi_0lt, oi_0le, oi_eq0, oi_eq1, bI_eq0, bI_ne0, bI_eq1, decide_eq_true_eq, decide_eq_false_iff_not, lc_lt, lc_gt, lc_eq, lc_ge, lc_le, ol_lt, ol_eq, ne_eq, Int.not_lt, Int.not_le, Bool.not_eq_true, Bool.not_eq_false, Decidable.not_not, not_true_eq_false, not_false_eq_true, Bool.true_eq_false, Bool.false_eq_true] at c3) <;> (first | (exfalso; omega) | ((fail_if_success with_reducible refine hJ _ _ _ _ ?_); conv => whnf) | skip)
      · refine hJ _ _ _ _ ?_
        conv => whnf
        refine s_adv hC ha (fun σ' k1 k2 => ?_)
        conv => whnf
        rw [e9, (isNm_ok c ha.2.2.2.1).2.2.1]
        refine h1 σ' c k1 k2 ?_
        unfold rNew
        rw [if_neg (by rw [c]; decide), if_neg (fun z => z.elim (fun z => z (ft.2.2.1.mp (x3.symm.trans c2))) (fun z => z (fm.2.2.1.mp (y3.symm.trans c3))))]
      · exact bad (Or.inr (fun z => c3 (y3.trans (fm.2.2.1.mpr z))))
  · refine s_fail hC ha.2.2.2 ?_
    conv => whnf
    refine h2 _ ?_ fC_hr
    unfold rNew
    rw [if_pos c]
    exact OC.fl
