theorem doF_o {f : Nat → Int} {S : DS} (h : ¬ (11 ≤ f 0 ∧ f 0 ≤ 15)) : doF f S = S := by
  unfold doF
  rw [if_neg (by omega), if_neg (by omega), if_neg (by omega), if_neg (by omega), if_neg (by omega)]
theorem nxtF_1 {d : Nat → Nat → Int} {k : Nat} {h : Nat → Int} (hn : d k 0 < 1600) : nxtF d k h = k + 1 := by
  unfold nxtF
  rw [if_neg (by omega)]
theorem StepOk.c11 {a b : Int} {f : Nat → Int} (h : StepOk a b f) (e : f 0 = 11) : 1 ≤ f 1 ∧ f 1 ≤ 60 := by
  rcases h with h | ⟨h | h | h, -⟩ | h | h | h | h | h | h | h | h
  all_goals first | exact h.2 | (exfalso; omega)
theorem StepOk.c12 {a b : Int} {f : Nat → Int} (h : StepOk a b f) (e : f 0 = 12 ∨ f 0 = 13 ∨ f 0 = 14) : 0 ≤ f 1 ∧ f 1 < b := by
  rcases h with h | h | h | h | h | h | h | h | h | h
  all_goals first | exact h.2 | (exfalso; omega)
theorem StepOk.c17 {a b : Int} {f : Nat → Int} (h : StepOk a b f) (e : f 0 = 17) : 1 ≤ f 1 ∧ f 1 ≤ 99 := by
  rcases h with h | ⟨h | h | h, -⟩ | h | h | h | h | h | h | h | h
  all_goals first | (exfalso; omega) | exact h.2
theorem s_behindStep {CALL : CT} (hC : RuleAll CALL) {r : Nat} {σ : AM} {K : AV → AM → Prop} {i q p s k : Nat} {d : Nat → Nat → Int} {h0 : Nat → Int} {S : DS} {a b : Int} (hl : LF σ i q p s d) (hr : HRep σ q S.1) (hg : GD h0 S.1) (ea : h0 0 = a) (eb : h0 1 = b) (hf : StepOk a b (d k)) (h4 : 1600 ≤ d k 0 → 0 ≤ d k 4 ∧ d k 4 < 60) (hk : k < s) (hne : d k 0 ≠ 18) (g3 : σ.1 19 i 3 = Int32.ofInt S.2.1) (g0 : 0 ≤ S.2.1) (g1 : S.2.1 < 65536) (g5 : σ.1 19 i 5 = Int32.ofInt S.2.2) (h : ∀ σ' : AM, HRep σ' q (doF (d k) S).1 → σ'.1 19 i 3 = Int32.ofInt (doF (d k) S).2.1 → σ'.1 19 i 5 = Int32.ofInt (doF (d k) S).2.2 → (∀ j, σ'.1 20 i j = if d k 0 = 17 ∧ j = k then Int32.ofInt (d k 1) else σ.1 20 i j) → Ch (fun t p j => HS q t p ∨ (t = 19 ∧ p = i ∧ (j = 3 ∨ j = 5)) ∨ (t = 20 ∧ p = i)) σ σ' → K (.inl (Int32.ofInt (if d k 0 = 19 then (s : Int) else ((nxtF d k (doF (d k) S).1 : Nat) : Int)))) σ') : CALL (r + 6) n_Life_behindStep [.inr (.inr (19, i)), .inl (Int32.ofInt k)] σ K := by
  refine r_Life_behindStep hC (fun J hJ => ?_)
  refine hJ _ _ _ _ ?_
  conv => whnf
  have hw := hg.1.1
  have e1 : S.1 1 = b := hg.2.2.2.1.trans eb
  have e0 : S.1 0 = a := hg.2.2.1.trans ea
  have bb := hw.1
  have hg5 := hg.2.1
  obtain ⟨l1, l2, l3, l4, l5, l6, l7⟩ := id hl
  obtain ⟨s1, s2, s3, s4, s5, s6⟩ := l7 k hk
  have ko := kdC_or hf
  have kb : 11 ≤ kdC (d k 0) ∧ kdC (d k 0) ≤ 22 := by omega
  have hrm : ∀ x : Int32, HRep (wI σ 19 i 5 x) q S.1 := fun x => hr.ch (S := fun t i j => t = 19) (Ch.wI rfl) (fun t j a b => by omega)
  -- the usual end
  have fin : d k 0 < 1600 → d k 0 ≠ 19 → ∀ (σ' : AM) (x2 x3 : AV), HRep σ' q (doF (d k) S).1 → σ'.1 19 i 3 = Int32.ofInt (doF (d k) S).2.1 → σ'.1 19 i 5 = Int32.ofInt (doF (d k) S).2.2 → (∀ j, σ'.1 20 i j = if d k 0 = 17 ∧ j = k then Int32.ofInt (d k 1) else σ.1 20 i j) → Ch (fun t p j => HS q t p ∨ (t = 19 ∧ p = i ∧ (j = 3 ∨ j = 5)) ∨ (t = 20 ∧ p = i)) σ σ' → J 301 [.inr (.inr (19, i)), .inl (Int32.ofInt (k : Int)), x2, x3] [] σ' := by
    intro n1 n2 σ' x2 x3 k1 k2 k3 k4 k5
    have := h σ' k1 k2 k3 k4 k5
    rw [if_neg n2, nxtF_1 n1] at this
    refine hJ _ _ _ _ ?_
    conv => whnf
    rw [oi_succ]
    exact this
  have fr5 : ∀ x : Int32, Ch (fun t p j => HS q t p ∨ (t = 19 ∧ p = i ∧ (j = 3 ∨ j = 5)) ∨ (t = 20 ∧ p = i)) σ (wI σ 19 i 5 x) := fun x => Ch.wI (Or.inr (Or.inl ⟨rfl, rfl, Or.inr rfl⟩))
  rw [l2]
  refine ⟨l4, ?_⟩
  conv => whnf
  refine ⟨(oi_in (by omega) (by omega)).mpr ⟨by omega, by omega⟩, ?_⟩
  conv => whnf
  rw [l2]
  refine ⟨l4, ?_⟩
  conv => whnf
  refine ⟨(oi_in (by omega) (by omega)).mpr ⟨by omega, by omega⟩, ?_⟩
  conv => whnf
  rw [l2]
  refine ⟨l4, ?_⟩
  conv => whnf
  refine ⟨(oi_in (by omega) (by omega)).mpr ⟨by omega, by omega⟩, ?_⟩
  conv => whnf
  rw [oi_nat (by omega) (by omega), Int.toNat_natCast, s1]
  have et : (Int32.ofInt (kdC (d k 0))).toInt = kdC (d k 0) := ti_oi (by omega) (by omega)
  refine ⟨⟨fun c => ?_, fun c => ?_, fun c => ?_, fun c => ?_, fun c => ?_, fun c => ?_, fun c => ?_, fun c => ?_, fun c => ?_, fun c => ?_, trivial⟩, fun c => ?_⟩
  all_goals rw [et] at c
  · -- minutes
    have e : d k 0 = 11 := by omega
    have hf1 := hf.c11 e
    have eD : doF (d k) S = if 9999 < S.1 5 + d k 1 then (S.1, S.2.1, S.2.2 + 1) else (minN (d k 1).toNat S.1, S.2.1, S.2.2) := if_pos e
    have fin := fin (by omega) (by omega)
    rw [eD] at fin
    clear h4 ko
    obtain ⟨m, em⟩ : ∃ m : Nat, d k 1 = (m : Int) := ⟨(d k 1).toNat, by omega⟩
    rw [s3 (Or.inl e), em]
    rw [em, Int.toNat_natCast] at fin
    have pass : ∀ (τ : AM) (n : Nat) (x2 : AV), HRep τ q S.1 → S.1 5 + n ≤ 20000 → (∀ τ' : AM, HRep τ' q (minN n S.1) → Ch (fun t p j => HS q t p) τ τ' → J 301 [.inr (.inr (19, i)), .inl (Int32.ofInt (k : Int)), x2, .inl (Int32.ofInt (m : Int))] [] τ') → J 132 [.inr (.inr (19, i)), .inl (Int32.ofInt (k : Int)), x2, .inl (Int32.ofInt (m : Int))] [.inl (Int32.ofInt (n : Int)), .inr (.inr (22, q))] τ := by
      intro τ n x2 hrt hn5 kk
      refine hJ _ _ _ _ ?_
      conv => whnf
      refine s_pass hC hrt hg.1 hn5 (fun τ' k1 k2 k3 => ?_)
      conv => whnf
      exact kk τ' k1 ⟨fun t p j z => congrFun (k2 t p z).1 j, k3⟩
    refine hJ _ _ _ _ ?_
    conv => whnf
    rw [l1]
    refine ⟨l3, ?_⟩
    conv => whnf
    rw [hr.2.2.2.2.2.1, oi_add]
    refine ⟨fun c2 => ?_, fun c2 => ?_⟩ <;> (try simp (disch := omega) only [oi_le, oi_lt, oi_eq, oi_lt0, oi_le0, oi_0lt, oi_0le, oi_eq0, oi_eq1, bI_eq0, bI_ne0, bI_eq1, decide_eq_true_eq, decide_eq_false_iff_not, lc_lt, lc_gt, lc_eq, lc_ge, lc_le, ol_lt, ol_eq, ne_eq, Int.not_lt, Int.not_le, Bool.not_eq_true, Bool.not_eq_false, Decidable.not_not, not_true_eq_false, not_false_eq_true, Bool.true_eq_false, Bool.false_eq_true] at c2) <;> (first | (exfalso; omega) | ((with_reducible refine hJ _ _ _ _ ?_); conv => whnf) | (conv => whnf))
    · refine hJ _ _ _ _ ?_
      conv => whnf
      refine s_miss hC (b := false) g5 ?_
      conv => whnf
      rw [wI22, l1]
      refine ⟨l3, ?_⟩
      conv => whnf
      rw [wI22, l1]
      refine ⟨l3, ?_⟩
      conv => whnf
      rw [(hrm _).2.2.2.2.2.1, oi_add]
      refine ⟨fun c3 => ?_, fun c3 => ?_⟩ <;> (try simp (disch := omega) only [oi_le, oi_lt, oi_eq, oi_lt0, oi_le0, oi_0lt, oi_0le, oi_eq0, oi_eq1, bI_eq0, bI_ne0, bI_eq1, decide_eq_true_eq, decide_eq_false_iff_not, lc_lt, lc_gt, lc_eq, lc_ge, lc_le, ol_lt, ol_eq, ne_eq, Int.not_lt, Int.not_le, Bool.not_eq_true, Bool.not_eq_false, Decidable.not_not, not_true_eq_false, not_false_eq_true, Bool.true_eq_false, Bool.false_eq_true] at c3) <;> (first | (exfalso; omega) | ((with_reducible refine hJ _ _ _ _ ?_); conv => whnf) | (conv => whnf))
      refine pass _ m _ (hrm _) (by omega) (fun τ' k1 k2 => ?_)
      rw [if_neg (by omega)] at fin
      refine fin τ' _ _ k1 ?_ ?_ (fun j => ?_) ((fr5 _).tr (k2.mo (fun t p j z => Or.inl z)))
      · rw [k2.1 _ _ _ (by unfold HS; omega), wI1, if_neg (by omega), g3]
      · rw [k2.1 _ _ _ (by unfold HS; omega), wI_16]
        show Int32.ofInt (S.2.2 + 0) = _
        rw [Int.add_zero]
      · rw [if_neg (by omega), k2.1 _ _ _ (by unfold HS; omega), wI1, if_neg (by omega)]
    · refine hJ _ _ _ _ ?_
      conv => whnf
      refine s_miss hC (b := true) g5 ?_
      conv => whnf
      rw [wI22, l1]
      refine ⟨l3, ?_⟩
      conv => whnf
      rw [wI22, l1]
      refine ⟨l3, ?_⟩
      conv => whnf
      rw [(hrm _).2.2.2.2.2.1, oi_add]
      refine ⟨fun c3 => ?_, fun c3 => ?_⟩ <;> (try simp (disch := omega) only [oi_le, oi_lt, oi_eq, oi_lt0, oi_le0, oi_0lt, oi_0le, oi_eq0, oi_eq1, bI_eq0, bI_ne0, bI_eq1, decide_eq_true_eq, decide_eq_false_iff_not, lc_lt, lc_gt, lc_eq, lc_ge, lc_le, ol_lt, ol_eq, ne_eq, Int.not_lt, Int.not_le, Bool.not_eq_true, Bool.not_eq_false, Decidable.not_not, not_true_eq_false, not_false_eq_true, Bool.true_eq_false, Bool.false_eq_true] at c3) <;> (first | (exfalso; omega) | ((with_reducible refine hJ _ _ _ _ ?_); conv => whnf) | (conv => whnf))
      refine pass _ 0 _ (hrm _) (by omega) (fun τ' k1 k2 => ?_)
      rw [if_pos (by omega)] at fin
      refine fin τ' _ _ k1 ?_ ?_ (fun j => ?_) ((fr5 _).tr (k2.mo (fun t p j z => Or.inl z)))
      · rw [k2.1 _ _ _ (by unfold HS; omega), wI1, if_neg (by omega), g3]
      · rw [k2.1 _ _ _ (by unfold HS; omega), wI_16]
        rfl
      · rw [if_neg (by omega), k2.1 _ _ _ (by unfold HS; omega), wI1, if_neg (by omega)]
  · -- the silent one changes
    have e : d k 0 = 12 := by omega
    have hf1 := hf.c12 (Or.inl e)
    have eD : doF (d k) S = (up S.1 8 (d k 1), S.2.1, S.2.2 + (if S.1 8 = d k 1 then 1 else 0)) := by unfold doF; rw [if_neg (by omega), if_pos e]
    have fin := fin (by omega) (by omega)
    rw [eD] at fin
    clear h4 ko
    rw [s2 (Or.inl (by omega))]
    have go : ∀ bo : Bool, b01 bo = (if S.1 8 = d k 1 then 1 else 0) → J 156 [.inr (.inr (19, i)), .inl (Int32.ofInt (k : Int)), .inl (Int32.ofInt (d k 1)), .inl (σ.1 40 p k)] [.inl (bI bo), .inr (.inr (19, i))] σ := by
      intro bo hbo
      refine hJ _ _ _ _ ?_
      conv => whnf
      refine s_miss hC g5 ?_
      conv => whnf
      rw [wI22, l1, hbo]
      refine ⟨l3, ?_⟩
      conv => whnf
      refine fin _ _ _ (HRep.upd (t := 22) (j := 10) (hrm _) hw (Or.inl ⟨rfl, by omega, by omega⟩) (by decide)) ?_ ?_ (fun j => ?_) ((fr5 _).tr (Ch.wI (Or.inl ⟨by omega, by omega, rfl⟩)))
      · rw [wI1, if_neg (by omega), wI1, if_neg (by omega), g3]
      · rw [wI1, if_neg (by omega), wI_16]
      · rw [wI1, if_neg (by omega), wI1, if_neg (by omega), if_neg (show ¬ (d k 0 = 17 ∧ j = k) by omega)]
    refine hJ _ _ _ _ ?_
    conv => whnf
    rw [l1]
    refine ⟨l3, ?_⟩
    conv => whnf
    rw [hr.2.2.2.2.2.2.2.2.1]
    refine ⟨fun c2 => ?_, fun c2 => ?_⟩ <;> (try simp (disch := omega) only [oi_le, oi_lt, oi_eq, oi_lt0, oi_le0, oi_0lt, oi_0le, oi_eq0, oi_eq1, bI_eq0, bI_ne0, bI_eq1, decide_eq_true_eq, decide_eq_false_iff_not, lc_lt, lc_gt, lc_eq, lc_ge, lc_le, ol_lt, ol_eq, ne_eq, Int.not_lt, Int.not_le, Bool.not_eq_true, Bool.not_eq_false, Decidable.not_not, not_true_eq_false, not_false_eq_true, Bool.true_eq_false, Bool.false_eq_true] at c2) <;> (first | (exfalso; omega) | ((with_reducible refine hJ _ _ _ _ ?_); conv => whnf) | (conv => whnf))
    · exact go false (by rw [if_neg c2]; rfl)
    · exact go true (by rw [if_pos c2]; rfl)
  · -- one wakes
    have e : d k 0 = 13 := by omega
    have hf1 := hf.c12 (Or.inr (Or.inl e))
    obtain ⟨m, em⟩ : ∃ m : Nat, d k 1 = (m : Int) := ⟨(d k 1).toNat, by omega⟩
    have eD : doF (d k) S = (up S.1 (27 + 7 * m) 1, S.2.1, S.2.2 + (if S.1 (27 + 7 * m) = 1 then 1 else 0)) := by unfold doF; rw [if_neg (by omega), if_neg (by omega), if_pos e, em, Int.toNat_natCast]
    have fin := fin (by omega) (by omega)
    rw [eD] at fin
    clear h4 ko
    rw [s2 (Or.inl (by omega)), em]
    refine hJ _ _ _ _ ?_
    conv => whnf
    rw [l1]
    refine ⟨l3, ?_⟩
    conv => whnf
    refine s_isAwake hC hr hw (by omega) ?_
    conv => whnf
    refine s_miss hC g5 ?_
    conv => whnf
    rw [wI22, l1, b01_dec]
    refine ⟨l3, ?_⟩
    conv => whnf
    refine s_rouse hC (is := true) (hrm _) hw (by omega) ?_
    conv => whnf
    refine fin _ _ _ (HRep.rou (is := true) (hrm _) hw (by omega)) ?_ ?_ (fun j => ?_) ((fr5 _).tr (Ch.wI (Or.inl ⟨by omega, by omega, rfl⟩)))
    · rw [wI1, if_neg (by omega), wI1, if_neg (by omega), g3]
    · rw [wI1, if_neg (by omega), wI_16]
    · rw [wI1, if_neg (by omega), wI1, if_neg (by omega), if_neg (show ¬ (d k 0 = 17 ∧ j = k) by omega)]
  · -- one sleeps
    have e : d k 0 = 14 := by omega
    have hf1 := hf.c12 (Or.inr (Or.inr e))
    obtain ⟨m, em⟩ : ∃ m : Nat, d k 1 = (m : Int) := ⟨(d k 1).toNat, by omega⟩
    have hq := hw.2.2.1 m (by omega)
    have eD : doF (d k) S = (up S.1 (27 + 7 * m) 0, S.2.1, S.2.2 + (if S.1 (27 + 7 * m) = 0 then 1 else 0)) := by unfold doF; rw [if_neg (by omega), if_neg (by omega), if_neg (by omega), if_pos e, em, Int.toNat_natCast]
    have fin := fin (by omega) (by omega)
    rw [eD] at fin
    clear h4 ko
    rw [s2 (Or.inl (by omega)), em]
    have go : ∀ bo : Bool, b01 bo = (if S.1 (27 + 7 * m) = 0 then 1 else 0) → J 220 [.inr (.inr (19, i)), .inl (Int32.ofInt (k : Int)), .inl (Int32.ofInt (m : Int)), .inl (σ.1 40 p k)] [.inl (bI bo), .inr (.inr (19, i))] σ := by
      intro bo hbo
      refine hJ _ _ _ _ ?_
      conv => whnf
      refine s_miss hC g5 ?_
      conv => whnf
      rw [wI22, l1, hbo]
      refine ⟨l3, ?_⟩
      conv => whnf
      refine s_rouse hC (is := false) (hrm _) hw (by omega) ?_
      conv => whnf
      refine fin _ _ _ (HRep.rou (is := false) (hrm _) hw (by omega)) ?_ ?_ (fun j => ?_) ((fr5 _).tr (Ch.wI (Or.inl ⟨by omega, by omega, rfl⟩)))
      · rw [wI1, if_neg (by omega), wI1, if_neg (by omega), g3]
      · rw [wI1, if_neg (by omega), wI_16]
      · rw [wI1, if_neg (by omega), wI1, if_neg (by omega), if_neg (show ¬ (d k 0 = 17 ∧ j = k) by omega)]
    refine hJ _ _ _ _ ?_
    conv => whnf
    rw [l1]
    refine ⟨l3, ?_⟩
    conv => whnf
    refine s_isAwake hC hr hw (by omega) ?_
    conv => whnf
    refine ⟨fun c2 => ?_, fun c2 => ?_⟩ <;> (try simp (disch := omega) only [oi_le, oi_lt, oi_eq, oi_lt0, oi_le0, oi_0lt, oi_0le, oi_eq0, oi_eq1, bI_eq0, bI_ne0, bI_eq1, decide_eq_true_eq, decide_eq_false_iff_not, lc_lt, lc_gt, lc_eq, lc_ge, lc_le, ol_lt, ol_eq, ne_eq, Int.not_lt, Int.not_le, Bool.not_eq_true, Bool.not_eq_false, Decidable.not_not, not_true_eq_false, not_false_eq_true, Bool.true_eq_false, Bool.false_eq_true] at c2) <;> (first | (exfalso; omega) | ((with_reducible refine hJ _ _ _ _ ?_); conv => whnf) | (conv => whnf))
    · exact go false (by rw [if_neg (by omega)]; rfl)
    · exact go true (by rw [if_pos (by omega)]; rfl)
  · -- any
    have e : d k 0 = 15 := by omega
    have eD : doF (d k) S = (if S.1 1 = 0 then (S.1, S.2.1, S.2.2 + 1) else (up S.1 (24 + 7 * (drw S.2.1 / 8 % S.1 1).toNat) (max 0 (S.1 (24 + 7 * (drw S.2.1 / 8 % S.1 1).toNat) - drw (drw S.2.1) / 8 % 8)), drw (drw S.2.1), S.2.2)) := by unfold doF; rw [if_neg (by omega), if_neg (by omega), if_neg (by omega), if_neg (by omega), if_pos e]
    have fin := fin (by omega) (by omega)
    rw [eD] at fin
    clear h4 ko
    refine hJ _ _ _ _ ?_
    conv => whnf
    refine s_coughed hC l1 l3 hr hw g3 g0 g1 (fun z => ?_) (fun z σ' k1 k2 k3 => ?_)
    · conv => whnf
      refine ⟨fun c2 => ?_, fun c2 => ?_⟩ <;> (try simp (disch := omega) only [oi_le, oi_lt, oi_eq, oi_lt0, oi_le0, oi_0lt, oi_0le, oi_eq0, oi_eq1, bI_eq0, bI_ne0, bI_eq1, decide_eq_true_eq, decide_eq_false_iff_not, lc_lt, lc_gt, lc_eq, lc_ge, lc_le, ol_lt, ol_eq, ne_eq, Int.not_lt, Int.not_le, Bool.not_eq_true, Bool.not_eq_false, Decidable.not_not, not_true_eq_false, not_false_eq_true, Bool.true_eq_false, Bool.false_eq_true] at c2) <;> (first | (exfalso; omega) | ((with_reducible refine hJ _ _ _ _ ?_); conv => whnf) | (conv => whnf))
      refine hJ _ _ _ _ ?_
      conv => whnf
      refine s_miss hC (b := true) g5 ?_
      conv => whnf
      rw [if_pos z] at fin
      refine fin _ _ _ (hrm _) ?_ ?_ (fun j => ?_) (fr5 _)
      · rw [wI1, if_neg (by omega), g3]
      · rw [wI_16]
        rfl
      · rw [if_neg (by omega), wI1, if_neg (by omega)]
    · conv => whnf
      refine ⟨fun c2 => ?_, fun c2 => ?_⟩ <;> (try simp (disch := omega) only [oi_le, oi_lt, oi_eq, oi_lt0, oi_le0, oi_0lt, oi_0le, oi_eq0, oi_eq1, bI_eq0, bI_ne0, bI_eq1, decide_eq_true_eq, decide_eq_false_iff_not, lc_lt, lc_gt, lc_eq, lc_ge, lc_le, ol_lt, ol_eq, ne_eq, Int.not_lt, Int.not_le, Bool.not_eq_true, Bool.not_eq_false, Decidable.not_not, not_true_eq_false, not_false_eq_true, Bool.true_eq_false, Bool.false_eq_true] at c2) <;> (first | (exfalso; omega) | ((with_reducible refine hJ _ _ _ _ ?_); conv => whnf) | (conv => whnf))
      refine hJ _ _ _ _ ?_
      conv => whnf
      refine s_miss hC (b := false) (ms := S.2.2) (by rw [k3.1 _ _ _ (by unfold HS; omega), g5]) ?_
      conv => whnf
      rw [if_neg z] at fin
      refine fin _ _ _ (k1.ch (S := fun t i j => t = 19) (Ch.wI rfl) (fun t j a b => by omega)) ?_ ?_ (fun j => ?_) ((k3.mo (fun t p j y => ?_)).tr (Ch.wI (Or.inr (Or.inl ⟨rfl, rfl, Or.inr rfl⟩))))
      · rw [wI1, if_neg (by omega), k2]
      · rw [wI_16]
        show Int32.ofInt (S.2.2 + 0) = _
        rw [Int.add_zero]
      · rw [if_neg (by omega), wI1, if_neg (by omega), k3.1 _ _ _ (by unfold HS; omega)]
      · rcases y with y | y
        · exact Or.inl y
        · exact Or.inr (Or.inl ⟨y.1, y.2.1, Or.inl y.2.2⟩)
  · -- when
    have e : 1600 ≤ d k 0 := by omega
    have h4 := h4 e
    have eD : doF (d k) S = S := doF_o (by omega)
    clear ko fin
    rw [eD] at h
    have h := h σ hr g3 g5 (fun j => by rw [if_neg (by omega)]) Ch.rf
    rw [if_neg (by omega)] at h
    refine hJ _ _ _ _ ?_
    conv => whnf
    refine s_lholds hC hl hr hw hf e1 e0 hk e ?_
    conv => whnf
    refine ⟨fun c2 => ?_, fun c2 => ?_⟩ <;> (try simp (disch := omega) only [oi_le, oi_lt, oi_eq, oi_lt0, oi_le0, oi_0lt, oi_0le, oi_eq0, oi_eq1, bI_eq0, bI_ne0, bI_eq1, decide_eq_true_eq, decide_eq_false_iff_not, lc_lt, lc_gt, lc_eq, lc_ge, lc_le, ol_lt, ol_eq, ne_eq, Int.not_lt, Int.not_le, Bool.not_eq_true, Bool.not_eq_false, Decidable.not_not, not_true_eq_false, not_false_eq_true, Bool.true_eq_false, Bool.false_eq_true] at c2) <;> (first | (exfalso; omega) | ((with_reducible refine hJ _ _ _ _ ?_); conv => whnf) | (conv => whnf))
    · have en : nxtF d k S.1 = (d k 4).toNat + 1 := if_pos ⟨e, c2⟩
      rw [l2]
      refine ⟨l4, ?_⟩
      conv => whnf
      refine ⟨(oi_in (by omega) (by omega)).mpr ⟨by omega, by omega⟩, ?_⟩
      conv => whnf
      rw [oi_nat (by omega) (by omega), Int.toNat_natCast, s6 (Or.inl (Or.inr e))]
      refine hJ _ _ _ _ ?_
      conv => whnf
      rw [oi_add, show d k 4 + 1 = (((d k 4).toNat + 1 : Nat) : Int) by omega]
      rw [en] at h
      exact h
    · have en : nxtF d k S.1 = k + 1 := if_neg (by rw [c2]; simp)
      refine hJ _ _ _ _ ?_
      conv => whnf
      rw [oi_succ]
      rw [en] at h
      exact h
  · omega
  · omega
  · omega
  · -- a loop
    have e : d k 0 = 17 := by omega
    have eD : doF (d k) S = S := doF_o (by omega)
    have fin := fin (by omega) (by omega)
    rw [eD] at fin
    clear h4 ko
    rw [s3 (Or.inr e)]
    refine hJ _ _ _ _ ?_
    conv => whnf
    refine ⟨(oi_in (by omega) (by omega)).mpr ⟨by omega, by omega⟩, ?_⟩
    conv => whnf
    rw [oi_nat (by omega) (by omega), Int.toNat_natCast]
    refine fin _ _ _ (hr.ch (S := fun t i j => t = 20) (Ch.wI rfl) (fun t j a b => by omega)) ?_ ?_ (fun j => ?_) (Ch.wI (Or.inr (Or.inr ⟨rfl, rfl⟩)))
    · rw [wI1, if_neg (by omega), g3]
    · rw [wI1, if_neg (by omega), g5]
    · rw [wI1]
      by_cases ej : j = k
      · rw [if_pos ⟨rfl, rfl, ej⟩, if_pos ⟨e, ej⟩]
      · rw [if_neg (by omega), if_neg (by omega)]
  · -- stop
    have e : d k 0 = 19 := by omega
    have eD : doF (d k) S = S := doF_o (by omega)
    rw [eD] at h
    have h := h σ hr g3 g5 (fun j => by rw [if_neg (by omega)]) Ch.rf
    rw [if_pos e] at h
    refine hJ _ _ _ _ ?_
    conv => whnf
    rw [l2]
    refine ⟨l4, ?_⟩
    conv => whnf
    rw [l6]
    exact h
