theorem lrS_bd {h : Nat → Int} (hw : WF h) {but k : Int} (hk : 0 ≤ k) (i : Nat) (hi : (i : Int) ≤ h 1) : 0 ≤ lrS h but k i ∧ lrS h but k i ≤ 99 := by
  refine ⟨(lrS_le _ _ _ _ _).mpr ⟨by omega, fun j hj _ => ?_⟩, ((lrS_le _ _ _ _ i).mp (Int.le_refl _)).1⟩
  have hq := hw.2.2.1 j (by omega)
  have := Int.mul_nonneg (show 0 ≤ h (26 + 7 * j) by omega) hk
  omega
theorem s_leastRested {CALL : CT} (hC : RuleAll CALL) {r : Nat} {σ : AM} {K : AV → AM → Prop} {n : Nat} {but k : Int} {h0 : Nat → Int} (hr : HRep σ n h0) (hw : WF h0) (b1 : -1 ≤ but) (b2 : but ≤ 7) (k1 : 0 ≤ k) (k2 : k ≤ 100) (h : K (.inl (Int32.ofInt (lrS h0 but k (h0 1).toNat))) σ) : CALL (r + 2) n_Monks_leastRested [.inr (.inr (27, n)), .inl (Int32.ofInt but), .inl (Int32.ofInt k)] σ K := by
  refine r_Monks_leastRested hC (fun J hJ => ?_)
  refine hJ _ _ _ _ ?_
  conv => whnf
  have b := hw.1
  have q1 := hr.2.1
  have loop : ∀ (c i : Nat), i + c = (h0 1).toNat → J 6 [.inr (.inr (27, n)), .inl (Int32.ofInt but), .inl (Int32.ofInt k), .inl (Int32.ofInt (lrS h0 but k i)), .inl (Int32.ofInt (i : Int))] [] σ := by
    intro c
    induction c with
    | zero =>
      intro i hi
      have e : i = (h0 1).toNat := by omega
      subst e
      refine hJ _ _ _ _ ?_
      conv => whnf
      rw [q1]
      refine ⟨fun c2 => ?_, fun c2 => ?_⟩ <;> (try simp (disch := omega) only [oi_le, oi_lt, oi_eq, oi_lt0, oi_le0, oi_0lt, oi_0le, oi_eq0, oi_eq1, bI_eq0, bI_ne0, bI_eq1, decide_eq_true_eq, decide_eq_false_iff_not, lc_lt, lc_gt, lc_eq, lc_ge, lc_le, ol_lt, ol_eq, ne_eq, Int.not_lt, Int.not_le, Bool.not_eq_true, Bool.not_eq_false, Decidable.not_not, not_true_eq_false, not_false_eq_true, Bool.true_eq_false, Bool.false_eq_true] at c2) <;> (first | (exfalso; omega) | ((with_reducible refine hJ _ _ _ _ ?_); conv => whnf) | (conv => whnf))
      exact h
    | succ c ih =>
      intro i hi
      have bd := lrS_bd hw (but := but) k1 i (by omega)
      have hq := hw.2.2.1 i (by omega)
      have hp : h0 (26 + 7 * i) * k ≤ 9 * 100 := Int.mul_le_mul (by omega) (by omega) (by omega) (by omega)
      have hp0 : 0 ≤ h0 (26 + 7 * i) * k := Int.mul_nonneg (by omega) (by omega)
      have nx := ih (i + 1) (by omega)
      rw [lrS] at nx
      refine hJ _ _ _ _ ?_
      conv => whnf
      rw [q1]
      refine ⟨fun c2 => ?_, fun c2 => ?_⟩ <;> (try simp (disch := omega) only [oi_le, oi_lt, oi_eq, oi_lt0, oi_le0, oi_0lt, oi_0le, oi_eq0, oi_eq1, bI_eq0, bI_ne0, bI_eq1, decide_eq_true_eq, decide_eq_false_iff_not, lc_lt, lc_gt, lc_eq, lc_ge, lc_le, ol_lt, ol_eq, ne_eq, Int.not_lt, Int.not_le, Bool.not_eq_true, Bool.not_eq_false, Decidable.not_not, not_true_eq_false, not_false_eq_true, Bool.true_eq_false, Bool.false_eq_true] at c2) <;> (first | (exfalso; omega) | ((with_reducible refine hJ _ _ _ _ ?_); conv => whnf) | (conv => whnf))
      refine ⟨fun c3 => ?_, fun c3 => ?_⟩ <;> (try simp (disch := omega) only [oi_le, oi_lt, oi_eq, oi_lt0, oi_le0, oi_0lt, oi_0le, oi_eq0, oi_eq1, bI_eq0, bI_ne0, bI_eq1, decide_eq_true_eq, decide_eq_false_iff_not, lc_lt, lc_gt, lc_eq, lc_ge, lc_le, ol_lt, ol_eq, ne_eq, Int.not_lt, Int.not_le, Bool.not_eq_true, Bool.not_eq_false, Decidable.not_not, not_true_eq_false, not_false_eq_true, Bool.true_eq_false, Bool.false_eq_true] at c3) <;> (first | (exfalso; omega) | ((fail_if_success with_reducible refine hJ _ _ _ _ ?_); conv => whnf) | skip)
      · refine hJ _ _ _ _ ?_
        conv => whnf
        rw [oi_succ]
        rw [if_pos c3] at nx
        exact nx
      · refine s_rested hC hr hw (by omega) ⟨by omega, by omega⟩ ?_
        conv => whnf
        refine s_minI hC (by omega) (by omega) (by omega) (by omega) ?_
        conv => whnf
        refine hJ _ _ _ _ ?_
        conv => whnf
        rw [oi_succ]
        rw [if_neg c3] at nx
        exact nx
  exact loop (h0 1).toNat 0 (by omega)
theorem s_next {CALL : CT} (hC : RuleAll CALL) {r : Nat} {σ : AM} {K : AV → AM → Prop} {i m t : Nat} {h0 : Nat → Int} (hi : i < 3) (hr : HRep σ i h0) (hw : WF h0) (ho : spOk h0 (some (m, t))) (h5 : h0 5 < 20000) (h : ∀ σ' : AM, HRep σ' (i + 1) (goF h0 (some (m, t))) → Fr (HS (i + 1)) σ σ' → σ'.2.2 = σ.2.2 → K unset σ') : CALL (r + 3) n_Ahead_next [.inr (.inr (11, 0)), .inl (Int32.ofInt i), .inl (Int32.ofInt m), .inl (Int32.ofInt t)] σ K := by
  refine r_Ahead_next hC (fun J hJ => ?_)
  refine hJ _ _ _ _ ?_
  conv => whnf
  rw [oi_succ]
  refine ⟨(oi_in (by omega) (by omega)).mpr ⟨by omega, by omega⟩, ?_⟩
  conv => whnf
  refine ⟨(oi_in (by omega) (by omega)).mpr ⟨by omega, by omega⟩, ?_⟩
  conv => whnf
  rw [oi_nat (by omega) (by omega), oi_nat (by omega) (by omega), Int.toNat_natCast, Int.toNat_natCast, Nat.zero_add, Nat.zero_add]
  refine s_houseCopy hC (by omega) ?_
  conv => whnf
  rw [oi_succ]
  refine ⟨(oi_in (by omega) (by omega)).mpr ⟨by omega, by omega⟩, ?_⟩
  conv => whnf
  rw [oi_nat (by omega) (by omega), Int.toNat_natCast, Nat.zero_add]
  refine s_goBy hC (sp := some (m, t)) (hr.hou hw (by omega)) hw ho h5 (fun σ2 g1 g2 g3 => ?_)
  conv => whnf
  exact h σ2 g1 (houC_fr.tr g2) (by rw [g3]; exact houC_R)
/-- what the search of the class's holds -/
def AR (σ : AM) (i n : Nat) (w : Nat → Int) (a : Acc) : Prop := σ.1 11 0 3 = Int32.ofInt (n : Int) ∧ σ.1 11 0 4 = Int32.ofInt a.1 ∧ (∀ l, l < i → σ.1 13 0 l = Int32.ofInt (w l)) ∧ (a.1 = -1 ∨ ∀ l, l < n → σ.1 15 0 l = Int32.ofInt (a.2 l))
def shS (i t q j : Nat) : Prop := (22 ≤ t ∧ t ≤ 36 ∧ i < q ∧ q < 4) ∨ (t = 11 ∧ q = 0 ∧ j = 4) ∨ (t = 13 ∧ q = 0 ∧ i ≤ j) ∨ (t = 15 ∧ q = 0)
def shL (i t q _j : Nat) : Prop := 22 ≤ t ∧ t ≤ 36 ∧ i < q ∧ q < 4
theorem HRep.cha {σ σ' : AM} {n : Nat} {h : Nat → Int} {S SL : Nat → Nat → Nat → Prop} (hr : HRep σ n h) (hc : ChA S SL σ σ') (hs : ∀ t j, 22 ≤ t → t ≤ 36 → ¬ S t n j) : HRep σ' n h := by
  rw [HRep_hix] at hr ⊢
  refine ⟨fun t j q => ?_, ?_⟩
  · rw [hc.1 t n j (hs t j (by unfold hin at q; omega) (by unfold hin at q; omega))]
    exact hr.1 t j q
  · rw [hc.1 27 n 7 (hs 27 7 (by omega) (by omega))]
    exact hr.2
theorem ChA.ofHS {σ σ' : AM} {i q : Nat} (hf : Fr (HS q) σ σ') (h2 : σ'.2.2 = σ.2.2) (hi : i < q) (hq : q < 4) : ChA (shS i) (shL i) σ σ' :=
  ⟨fun t p j n1 => congrFun (hf t p (fun z => n1 (Or.inl (by unfold HS at z; omega)))).1 j, fun t p j n1 => congrFun (hf t p (fun z => n1 (by unfold HS at z; unfold shL; omega))).2.1 j, h2⟩
theorem s_weigh {CALL : CT} (hC : RuleAll CALL) {r : Nat} {σ : AM} {K : AV → AM → Prop} {x b : Int} {n : Nat} (h3 : σ.1 11 0 3 = Int32.ofInt (n : Int)) (h4 : σ.1 11 0 4 = Int32.ofInt b) (hn : n ≤ 3) (x1 : -1 ≤ x) (x2 : x ≤ 1000000) (b1 : -1 ≤ b) (b2 : b ≤ 1000000) (h1 : b < x → K unset (cpI (wI σ 11 0 4 (Int32.ofInt x)) 13 0 15 0 0 0 n)) (h2 : ¬ b < x → K unset σ) : CALL (r + 1) n_Ahead_weigh [.inr (.inr (11, 0)), .inl (Int32.ofInt x)] σ K := by
  refine r_Ahead_weigh hC (fun J hJ => ?_)
  refine hJ _ _ _ _ ?_
  conv => whnf
  rw [h4]
  refine ⟨fun c => ?_, fun c => ?_⟩ <;> (try simp (disch := omega) only [oi_le, oi_lt, oi_eq, oi_lt0, oi_le0, oi_0lt, oi_0le, oi_eq0, oi_eq1, bI_eq0, bI_ne0, bI_eq1, decide_eq_true_eq, decide_eq_false_iff_not, lc_lt, lc_gt, lc_eq, lc_ge, lc_le, ol_lt, ol_eq, ne_eq, Int.not_lt, Int.not_le, Bool.not_eq_true, Bool.not_eq_false, Decidable.not_not, not_true_eq_false, not_false_eq_true, Bool.true_eq_false, Bool.false_eq_true] at c) <;> (first | (exfalso; omega) | ((with_reducible refine hJ _ _ _ _ ?_); conv => whnf) | (conv => whnf))
  · exact h2 (by omega)
  · rw [wI1, if_neg (by omega), h3, show (Int32.ofInt (n : Int)).toNatClampNeg = n by rw [oi_nat (by omega) (by omega), Int.toNat_natCast]]
    refine ⟨⟨by decide, by decide, fun p => ?_, ?_, ?_⟩, ?_⟩
    · rw [oi_lt0 (by omega) (by omega)] at p; omega
    · show 0 + n ≤ 3; omega
    · show 0 + n ≤ 3; omega
    · conv => whnf
      refine hJ _ _ _ _ ?_
      conv => whnf
      exact h1 (by omega)
theorem seaL_snoc (f : Nat → Acc → Acc) : ∀ (c k : Nat) (a : Acc), seaL f (c + 1) k a = f (k + c) (seaL f c k a)
  | 0, k, a => rfl
  | c + 1, k, a => by
    rw [seaL, seaL_snoc f c (k + 1) (f k a), seaL]
    congr 1
    omega
theorem topsS_ok {h : Nat → Int} {m t : Nat} (hw : WF h) (ht : t < 6) : (topsS h m).testBit t = okK h (6 * m + t) := by
  have b := hw.1
  unfold topsS okK
  rw [mask_bit, show (6 * m + t) % 6 = t by omega, show (6 * m + t) / 6 = m by omega]
  congr 1
  exact decide_eq_decide.mpr (by omega)
theorem seaL_bd {d : Nat} {h : Nat → Int} {i : Nat} {w : Nat → Int} (hw : WF h) (h5 : h 5 + (d + 1) ≤ 20000) : ∀ c k a, -1 ≤ a.1 → a.1 ≤ 99 → k + c ≤ 6 * (h 1).toNat → -1 ≤ (seaL (seaK d h i w) c k a).1 ∧ (seaL (seaK d h i w) c k a).1 ≤ 99 := by
  intro c
  induction c with
  | zero => intro k a a1 a2 _; exact ⟨a1, a2⟩
  | succ c ih =>
    intro k a a1 a2 hk
    rw [seaL]
    have st : -1 ≤ (seaK d h i w k a).1 ∧ (seaK d h i w k a).1 ≤ 99 := by
      unfold seaK
      by_cases ho : okK h k = true
      · rw [if_pos ho]
        have sp := okK_sp ho (by omega)
        have := sea_bd d (i := i + 1) (w := up w i (k : Int)) (a := a) (goF_WF hw sp (by omega)) (by rw [goF_5']; omega) (fun _ => by rw [goF_1]; omega) a1 a2
        exact ⟨this.1, this.2.1⟩
      · rw [if_neg ho]
        exact ⟨a1, a2⟩
    exact ih (k + 1) _ st.1 st.2 (by omega)
theorem s_tryM1 {CALL : CT} (hC : RuleAll CALL) {n r e i : Nat} {σ : AM} {K : AV → AM → Prop} {h0 w : Nat → Int} {a : Acc} (hn3 : n ≤ 3) (hin : i + (e + 1) = n) (hr : HRep σ i h0) (hw : WF h0) (h5 : h0 5 + (e + 1) ≤ 20000) (ha : AR σ i n w a) (a1 : -1 ≤ a.1) (a2 : a.1 ≤ 99)
    (rec : ∀ (k : Nat) (σ1 : AM) (a' : Acc) (K' : AV → AM → Prop), 1 ≤ e → okK h0 k = true → k < 6 * (h0 1).toNat → HRep σ1 (i + 1) (goF h0 (some (k / 6, k % 6))) → AR σ1 (i + 1) n (up w i (k : Int)) a' → -1 ≤ a'.1 → a'.1 ≤ 99 → (∀ σ' : AM, ChA (shS (i + 1)) (shL (i + 1)) σ1 σ' → AR σ' (i + 1) n (up w i (k : Int)) (sea e (goF h0 (some (k / 6, k % 6))) (i + 1) (up w i (k : Int)) a') → K' unset σ') → CALL (r + 4) n_Ahead_tryMinute [.inr (.inr (11, 0)), .inl (Int32.ofInt ((i + 1 : Nat) : Int))] σ1 K')
    (h : ∀ σ' : AM, ChA (shS i) (shL i) σ σ' → AR σ' i n w (sea (e + 1) h0 i w a) → K unset σ') : CALL (r + 5) n_Ahead_tryMinute [.inr (.inr (11, 0)), .inl (Int32.ofInt (i : Int))] σ K := by
  have b := hw.1
  refine r_Ahead_tryMinute hC (fun J hJ => ?_)
  obtain ⟨h3, h4, h13, h15⟩ := id ha
  have bd0 := lrS_bd hw (but := -1) (k := (n : Int) - (i : Int)) (by omega) (h0 1).toNat (by omega)
  refine hJ _ _ _ _ ?_
  conv => whnf
  rw [h3]
  refine ⟨fun c => ?_, fun c => ?_⟩ <;> (try simp (disch := omega) only [oi_le, oi_lt, oi_eq, oi_lt0, oi_le0, oi_0lt, oi_0le, oi_eq0, oi_eq1, bI_eq0, bI_ne0, bI_eq1, decide_eq_true_eq, decide_eq_false_iff_not, lc_lt, lc_gt, lc_eq, lc_ge, lc_le, ol_lt, ol_eq, ne_eq, Int.not_lt, Int.not_le, Bool.not_eq_true, Bool.not_eq_false, Decidable.not_not, not_true_eq_false, not_false_eq_true, Bool.true_eq_false, Bool.false_eq_true] at c) <;> (first | (exfalso; omega) | ((with_reducible refine hJ _ _ _ _ ?_); conv => whnf) | (conv => whnf))
  refine ⟨fun c2 => ?_, fun c2 => ?_⟩ <;> (try simp (disch := omega) only [oi_le, oi_lt, oi_eq, oi_lt0, oi_le0, oi_0lt, oi_0le, oi_eq0, oi_eq1, bI_eq0, bI_ne0, bI_eq1, decide_eq_true_eq, decide_eq_false_iff_not, lc_lt, lc_gt, lc_eq, lc_ge, lc_le, ol_lt, ol_eq, ne_eq, Int.not_lt, Int.not_le, Bool.not_eq_true, Bool.not_eq_false, Decidable.not_not, not_true_eq_false, not_false_eq_true, Bool.true_eq_false, Bool.false_eq_true] at c2) <;> (first | (exfalso; omega) | ((with_reducible refine hJ _ _ _ _ ?_); conv => whnf) | (conv => whnf))
  refine ⟨(oi_in (by omega) (by omega)).mpr ⟨by omega, by omega⟩, ?_⟩
  conv => whnf
  rw [oi_nat (by omega) (by omega), Int.toNat_natCast, Nat.zero_add, h3, oi_sub]
  refine s_leastRested hC hr hw (by omega) (by omega) (by omega) (by omega) ?_
  conv => whnf
  rw [h4]
  refine ⟨fun c3 => ?_, fun c3 => ?_⟩ <;> (try simp (disch := omega) only [oi_le, oi_lt, oi_eq, oi_lt0, oi_le0, oi_0lt, oi_0le, oi_eq0, oi_eq1, bI_eq0, bI_ne0, bI_eq1, decide_eq_true_eq, decide_eq_false_iff_not, lc_lt, lc_gt, lc_eq, lc_ge, lc_le, ol_lt, ol_eq, ne_eq, Int.not_lt, Int.not_le, Bool.not_eq_true, Bool.not_eq_false, Decidable.not_not, not_true_eq_false, not_false_eq_true, Bool.true_eq_false, Bool.false_eq_true] at c3) <;> (first | (exfalso; omega) | ((with_reducible refine hJ _ _ _ _ ?_); conv => whnf) | (conv => whnf))
  · have bdK : ∀ k, k ≤ 6 * (h0 1).toNat → -1 ≤ (seaL (seaK e h0 i w) k 0 a).1 ∧ (seaL (seaK e h0 i w) k 0 a).1 ≤ 99 := fun k hk => seaL_bd hw h5 k 0 a a1 a2 (by omega)
    have hrt : ∀ σt : AM, ChA (shS i) (shL i) σ σt → HRep σt i h0 := fun σt hc => hr.cha hc (fun t j _ _ => by unfold shS; omega)
    have inner : ∀ (m : Nat), (m : Int) < h0 1 → (∀ σ' : AM, ChA (shS i) (shL i) σ σ' → AR σ' i n w (seaL (seaK e h0 i w) (6 * (m + 1)) 0 a) → ∀ x4 x5 x6 x7, J 45 [.inr (.inr (11, 0)), .inl (Int32.ofInt (i : Int)), .inr (.inr (22, i)), .inl (Int32.ofInt ((m + 1 : Nat) : Int)), x4, x5, x6, x7] [] σ') → ∀ (c t : Nat) (σt : AM) (x7 : AV), t + c = 6 → ChA (shS i) (shL i) σ σt → AR σt i n w (seaL (seaK e h0 i w) (6 * m + t) 0 a) → J 77 [.inr (.inr (11, 0)), .inl (Int32.ofInt (i : Int)), .inr (.inr (22, i)), .inl (Int32.ofInt (m : Int)), .inl (Int32.ofInt (topsS h0 m : Nat)), .inl (Int32.ofInt (lrS h0 (m : Int) 1 (h0 1).toNat)), .inl (Int32.ofInt (t : Int)), x7] [] σt := by
      intro m hm nextM c
      induction c with
      | zero =>
        intro t σt x7 ht hc hat
        have e6 : t = 6 := by omega
        subst e6
        refine hJ _ _ _ _ ?_
        conv => whnf
        refine ⟨fun c4 => ?_, fun c4 => ?_⟩ <;> (try simp (disch := omega) only [oi_le, oi_lt, oi_eq, oi_lt0, oi_le0, oi_0lt, oi_0le, oi_eq0, oi_eq1, bI_eq0, bI_ne0, bI_eq1, decide_eq_true_eq, decide_eq_false_iff_not, lc_lt, lc_gt, lc_eq, lc_ge, lc_le, ol_lt, ol_eq, ne_eq, Int.not_lt, Int.not_le, Bool.not_eq_true, Bool.not_eq_false, Decidable.not_not, not_true_eq_false, not_false_eq_true, Bool.true_eq_false, Bool.false_eq_true] at c4) <;> (first | (exfalso; omega) | ((with_reducible refine hJ _ _ _ _ ?_); conv => whnf) | (conv => whnf))
        rw [oi_succ]
        exact nextM σt hc hat _ _ _ _
      | succ c ih =>
        intro t σt x7 ht hc hat
        have htt : t < 6 := by omega
        have hr1 := hrt σt hc
        have bk := bdK (6 * m + t) (by omega)
        have nx : seaL (seaK e h0 i w) (6 * m + (t + 1)) 0 a = seaK e h0 i w (6 * m + t) (seaL (seaK e h0 i w) (6 * m + t) 0 a) := by
          rw [show 6 * m + (t + 1) = 6 * m + t + 1 by omega, seaL_snoc, Nat.zero_add]
        obtain ⟨t3, t4, t13, t15⟩ := id hat
        have ts := topsS_lt hw m
        refine hJ _ _ _ _ ?_
        conv => whnf
        refine ⟨fun c4 => ?_, fun c4 => ?_⟩ <;> (try simp (disch := omega) only [oi_le, oi_lt, oi_eq, oi_lt0, oi_le0, oi_0lt, oi_0le, oi_eq0, oi_eq1, bI_eq0, bI_ne0, bI_eq1, decide_eq_true_eq, decide_eq_false_iff_not, lc_lt, lc_gt, lc_eq, lc_ge, lc_le, ol_lt, ol_eq, ne_eq, Int.not_lt, Int.not_le, Bool.not_eq_true, Bool.not_eq_false, Decidable.not_not, not_true_eq_false, not_false_eq_true, Bool.true_eq_false, Bool.false_eq_true] at c4) <;> (first | (exfalso; omega) | ((with_reducible refine hJ _ _ _ _ ?_); conv => whnf) | (conv => whnf))
        refine s_has hC (by omega) (by omega) ?_
        conv => whnf
        rw [topsS_ok hw htt]
        refine ⟨fun c5 => ?_, fun c5 => ?_⟩ <;> (try simp (disch := omega) only [oi_le, oi_lt, oi_eq, oi_lt0, oi_le0, oi_0lt, oi_0le, oi_eq0, oi_eq1, bI_eq0, bI_ne0, bI_eq1, decide_eq_true_eq, decide_eq_false_iff_not, lc_lt, lc_gt, lc_eq, lc_ge, lc_le, ol_lt, ol_eq, ne_eq, Int.not_lt, Int.not_le, Bool.not_eq_true, Bool.not_eq_false, Decidable.not_not, not_true_eq_false, not_false_eq_true, Bool.true_eq_false, Bool.false_eq_true] at c5) <;> (first | (exfalso; omega) | ((with_reducible refine hJ _ _ _ _ ?_); conv => whnf) | (conv => whnf))
        · have sp := okK_sp c5 (by omega)
          rw [show (6 * m + t) / 6 = m by omega, show (6 * m + t) % 6 = t by omega] at sp
          have eK : seaK e h0 i w (6 * m + t) (seaL (seaK e h0 i w) (6 * m + t) 0 a) = sea e (goF h0 (some (m, t))) (i + 1) (up w i ((6 * m + t : Nat) : Int)) (seaL (seaK e h0 i w) (6 * m + t) 0 a) := by
            unfold seaK
            rw [if_pos c5, show (6 * m + t) / 6 = m by omega, show (6 * m + t) % 6 = t by omega]
          refine s_speechOf hC ?_
          conv => whnf
          refine ⟨(oi_in (by omega) (by omega)).mpr ⟨by omega, by omega⟩, ?_⟩
          conv => whnf
          rw [oi_nat (by omega) (by omega), Int.toNat_natCast, show spI (some (m, t)) = ((6 * m + t : Nat) : Int) by simp only [spI]; omega]
          have hc1 : ChA (shS i) (shL i) σ (wI σt 13 0 i (Int32.ofInt ((6 * m + t : Nat) : Int))) := hc.tr (ChA.wI (Or.inr (Or.inr (Or.inl ⟨rfl, rfl, by omega⟩))))
          have ha1 : AR (wI σt 13 0 i (Int32.ofInt ((6 * m + t : Nat) : Int))) (i + 1) n (up w i ((6 * m + t : Nat) : Int)) (seaL (seaK e h0 i w) (6 * m + t) 0 a) := by
            refine ⟨by rw [wI1, if_neg (by omega), t3], by rw [wI1, if_neg (by omega), t4], fun l hl => ?_, ?_⟩
            · rw [wI1]
              by_cases el : l = i
              · rw [if_pos ⟨rfl, rfl, el⟩, el, up_eq]
              · rw [if_neg (by omega), up_ne el]
                exact t13 l (by omega)
            · rcases t15 with t15 | t15
              · exact Or.inl t15
              · exact Or.inr (fun l hl => by rw [wI1, if_neg (by omega)]; exact t15 l hl)
          have hr2 := hrt _ hc1
          have back : ∀ (σ2 : AM) (x7 : AV), ChA (shS i) (shL i) σ σ2 → AR σ2 (i + 1) n (up w i ((6 * m + t : Nat) : Int)) (sea e (goF h0 (some (m, t))) (i + 1) (up w i ((6 * m + t : Nat) : Int)) (seaL (seaK e h0 i w) (6 * m + t) 0 a)) → J 170 [.inr (.inr (11, 0)), .inl (Int32.ofInt (i : Int)), .inr (.inr (22, i)), .inl (Int32.ofInt (m : Int)), .inl (Int32.ofInt (topsS h0 m : Nat)), .inl (Int32.ofInt (lrS h0 (m : Int) 1 (h0 1).toNat)), .inl (Int32.ofInt (t : Int)), x7] [] σ2 := by
            intro σ2 x7 hc2 ha2
            refine hJ _ _ _ _ ?_
            conv => whnf
            rw [oi_succ]
            refine ih (t + 1) σ2 x7 (by omega) hc2 ?_
            rw [nx, eK]
            refine ⟨ha2.1, ha2.2.1, fun l hl => ?_, ha2.2.2.2⟩
            rw [ha2.2.2.1 l (by omega), up_ne (by omega)]
          rw [oi_succ, ha1.1]
          refine ⟨fun c6 => ?_, fun c6 => ?_⟩ <;> (try simp (disch := omega) only [oi_le, oi_lt, oi_eq, oi_lt0, oi_le0, oi_0lt, oi_0le, oi_eq0, oi_eq1, bI_eq0, bI_ne0, bI_eq1, decide_eq_true_eq, decide_eq_false_iff_not, lc_lt, lc_gt, lc_eq, lc_ge, lc_le, ol_lt, ol_eq, ne_eq, Int.not_lt, Int.not_le, Bool.not_eq_true, Bool.not_eq_false, Decidable.not_not, not_true_eq_false, not_false_eq_true, Bool.true_eq_false, Bool.false_eq_true] at c6) <;> (first | (exfalso; omega) | ((with_reducible refine hJ _ _ _ _ ?_); conv => whnf) | (conv => whnf))
          · refine s_next hC (by omega) hr2 hw sp (by omega) (fun σ2 g1 g2 g3 => ?_)
            conv => whnf
            rw [oi_succ]
            have ha2 : AR σ2 (i + 1) n (up w i ((6 * m + t : Nat) : Int)) (seaL (seaK e h0 i w) (6 * m + t) 0 a) := by
              have f11 := (g2 11 0 (by unfold HS; omega)).1
              have f13 := (g2 13 0 (by unfold HS; omega)).1
              have f15 := (g2 15 0 (by unfold HS; omega)).1
              unfold AR
              rw [f11, f13, f15]
              exact ha1
            have hc2 : ChA (shS i) (shL i) σ σ2 := hc1.tr (ChA.ofHS g2 g3 (by omega) (by omega))
            have rc := rec (6 * m + t) σ2 (seaL (seaK e h0 i w) (6 * m + t) 0 a)
            rw [show (6 * m + t) / 6 = m by omega, show (6 * m + t) % 6 = t by omega] at rc
            refine rc _ (by omega) c5 (by omega) g1 ha2 bk.1 bk.2 (fun σ3 g4 g5 => ?_)
            conv => whnf
            exact back σ3 _ (hc2.tr (g4.mo (fun t q j z => by unfold shS at z ⊢; omega) (fun t q j z => by unfold shL at z ⊢; omega))) g5
          · have hq := hw.2.2.1 m hm
            have htw := hw.2.1 t sp.2.1
            have lb := lrS_bd hw (but := (m : Int)) (k := 1) (by omega) (h0 1).toNat (by omega)
            obtain ⟨-, -, -, -, -, -, -, -, -, -, -, qt, qm, -⟩ := hr2
            refine ⟨(oi_in (by omega) (by omega)).mpr ⟨by omega, by omega⟩, ?_⟩
            conv => whnf
            refine ⟨(oi_in (by omega) (by omega)).mpr ⟨by omega, by omega⟩, ?_⟩
            conv => whnf
            rw [oi_nat (by omega) (by omega), oi_nat (by omega) (by omega), Int.toNat_natCast, Int.toNat_natCast, (qm m hm).1, (qt t sp.2.1).1, oi_sub]
            refine s_minI hC (by omega) (by omega) (by omega) (by omega) ?_
            conv => whnf
            have le := leaf_eq hw sp
            have lbd := leB_bd (goF_WF hw sp (by omega))
            rw [le]
            have e0 : e = 0 := by omega
            subst e0
            refine s_weigh hC (n := n) (b := (seaL (seaK 0 h0 i w) (6 * m + t) 0 a).1) ha1.1 ha1.2.1 hn3 (by omega) (by omega) (by omega) (by omega) (fun lt => ?_) (fun lt => ?_)
            · conv => whnf
              refine back _ _ (hc1.tr ((ChA.wI (Or.inr (Or.inl ⟨rfl, rfl, rfl⟩))).tr (ChA.cpI (fun j _ _ => Or.inr (Or.inr (Or.inr ⟨rfl, rfl⟩)))))) ?_
              rw [sea, if_pos lt]
              refine ⟨?_, ?_, fun l hl => ?_, Or.inr (fun l hl => ?_)⟩
              · rw [cpI1, if_neg (by omega), wI1, if_neg (by omega), ha1.1]
              · rw [cpI1, if_neg (by omega), wI_16]
              · rw [cpI1, if_neg (by omega), wI1, if_neg (by omega), ha1.2.2.1 l hl]
              · rw [cpI1, if_pos ⟨rfl, rfl, by omega, by omega⟩, wI1, if_neg (by omega), show 0 + (l - 0) = l by omega, ha1.2.2.1 l (by omega)]
            · conv => whnf
              refine back _ _ hc1 ?_
              rw [sea, if_neg lt]
              exact ha1
        · refine hJ _ _ _ _ ?_
          conv => whnf
          rw [oi_succ]
          refine ih (t + 1) σt x7 (by omega) hc ?_
          rw [nx]
          unfold seaK
          rw [if_neg (by rw [c5]; decide)]
          exact hat
    have outer : ∀ (c m : Nat) (σm : AM) (x4 x5 x6 x7 : AV), m + c = (h0 1).toNat → ChA (shS i) (shL i) σ σm → AR σm i n w (seaL (seaK e h0 i w) (6 * m) 0 a) → J 45 [.inr (.inr (11, 0)), .inl (Int32.ofInt (i : Int)), .inr (.inr (22, i)), .inl (Int32.ofInt (m : Int)), x4, x5, x6, x7] [] σm := by
      intro c
      induction c with
      | zero =>
        intro m σm x4 x5 x6 x7 hm hc ham
        have hr1 := hrt σm hc
        refine hJ _ _ _ _ ?_
        conv => whnf
        rw [hr1.2.1]
        refine ⟨fun c4 => ?_, fun c4 => ?_⟩ <;> (try simp (disch := omega) only [oi_le, oi_lt, oi_eq, oi_lt0, oi_le0, oi_0lt, oi_0le, oi_eq0, oi_eq1, bI_eq0, bI_ne0, bI_eq1, decide_eq_true_eq, decide_eq_false_iff_not, lc_lt, lc_gt, lc_eq, lc_ge, lc_le, ol_lt, ol_eq, ne_eq, Int.not_lt, Int.not_le, Bool.not_eq_true, Bool.not_eq_false, Decidable.not_not, not_true_eq_false, not_false_eq_true, Bool.true_eq_false, Bool.false_eq_true] at c4) <;> (first | (exfalso; omega) | ((with_reducible refine hJ _ _ _ _ ?_); conv => whnf) | (conv => whnf))
        refine h σm hc ?_
        rw [sea_s, show (h0 1).toNat = m by omega]
        exact ham
      | succ c ih =>
        intro m σm x4 x5 x6 x7 hm hc ham
        have hr1 := hrt σm hc
        refine hJ _ _ _ _ ?_
        conv => whnf
        rw [hr1.2.1]
        refine ⟨fun c4 => ?_, fun c4 => ?_⟩ <;> (try simp (disch := omega) only [oi_le, oi_lt, oi_eq, oi_lt0, oi_le0, oi_0lt, oi_0le, oi_eq0, oi_eq1, bI_eq0, bI_ne0, bI_eq1, decide_eq_true_eq, decide_eq_false_iff_not, lc_lt, lc_gt, lc_eq, lc_ge, lc_le, ol_lt, ol_eq, ne_eq, Int.not_lt, Int.not_le, Bool.not_eq_true, Bool.not_eq_false, Decidable.not_not, not_true_eq_false, not_false_eq_true, Bool.true_eq_false, Bool.false_eq_true] at c4) <;> (first | (exfalso; omega) | ((with_reducible refine hJ _ _ _ _ ?_); conv => whnf) | (conv => whnf))
        refine s_sayable hC hr1 hw (by omega) ?_
        conv => whnf
        refine s_leastRested hC hr1 hw (by omega) (by omega) (by omega) (by omega) ?_
        conv => whnf
        exact inner m (by omega) (fun σ' hc' ha' x4 x5 x6 x7 => ih (m + 1) σ' x4 x5 x6 x7 (by omega) hc' ha') 6 0 σm _ (by omega) hc ham
    exact outer (h0 1).toNat 0 σ _ _ _ _ (by omega) ChA.rf ha
  · refine h σ ChA.rf ?_
    rw [sea_cut (e + 1) hw (by omega) (fun z => by omega) (by rw [show ((e + 1 : Nat) : Int) = (n : Int) - (i : Int) by omega]; omega)]
    exact ha
theorem s_tryMinute {CALL : CT} (hC : RuleAll CALL) {n : Nat} (hn3 : n ≤ 3) : ∀ (e r : Nat) {σ : AM} {K : AV → AM → Prop} {i : Nat} {h0 w : Nat → Int} {a : Acc}, i + (e + 1) = n → HRep σ i h0 → WF h0 → h0 5 + (e + 1) ≤ 20000 → AR σ i n w a → -1 ≤ a.1 → a.1 ≤ 99 → (∀ σ' : AM, ChA (shS i) (shL i) σ σ' → AR σ' i n w (sea (e + 1) h0 i w a) → K unset σ') → CALL (r + e + 5) n_Ahead_tryMinute [.inr (.inr (11, 0)), .inl (Int32.ofInt (i : Int))] σ K := by
  intro e
  induction e with
  | zero =>
    intro r σ K i h0 w a hin hr hw h5 ha a1 a2 h
    exact s_tryM1 hC (e := 0) (r := r) hn3 hin hr hw h5 ha a1 a2 (fun k σ1 a' K' z => by omega) h
  | succ e IH =>
    intro r σ K i h0 w a hin hr hw h5 ha a1 a2 h
    refine s_tryM1 hC (e := e + 1) (r := r + (e + 1)) hn3 hin hr hw h5 ha a1 a2 (fun k σ1 a' K' _ ok hk g1 g2 g3 g4 g5 => ?_) h
    have sp := okK_sp ok hk
    exact IH r (by omega) g1 (goF_WF hw sp (by omega)) (by rw [goF_5']; omega) g2 g3 g4 g5
