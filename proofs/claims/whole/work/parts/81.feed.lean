/-! feeding the tape -/
theorem sg_i8 (i : Int8) : i.toInt32 = Int32.ofInt (sg8 i.toBitVec.toNat) := by
  have key : ∀ b : BitVec 8, (Int8.ofBitVec b).toInt32 = Int32.ofInt (sg8 b.toNat) := by decide +kernel
  exact key i.toBitVec
theorem byte_w (v : Int32) (s : Nat) (hs : s ≤ 24) : ∃ x : Nat, x < 256 ∧ (v.toUInt32 >>> ((Int32.ofInt (s : Int)).toUInt32 &&& Int32.toUInt32 31)).toInt32 &&& Int32.ofInt 255 = Int32.ofInt (x : Int) ∧ ((v >>> (Int32.ofInt (s : Int) &&& 31)).toInt8.toInt32).toInt8.toInt32 = Int32.ofInt (sg8 x) := by
  refine ⟨(v >>> (Int32.ofInt (s : Int) &&& 31)).toInt8.toBitVec.toNat, by have := (v >>> (Int32.ofInt (s : Int) &&& 31)).toInt8.toBitVec.isLt; omega, ?_, ?_⟩
  · have e0 : ∀ s : Nat, s ≤ 24 → ((Int32.ofInt (s : Int)).toUInt32 &&& Int32.toUInt32 31).toBitVec.toNat % 32 = s ∧ ((Int32.ofInt (s : Int) &&& 31).toBitVec.smod 32#32).toNat = s := by decide +kernel
    obtain ⟨e1, e2⟩ := e0 s hs
    apply Int32.toBitVec_inj.mp
    have h1 : ((v.toUInt32 >>> ((Int32.ofInt (s : Int)).toUInt32 &&& Int32.toUInt32 31)).toInt32).toBitVec = v.toBitVec >>> s := by
      show (v.toUInt32 >>> ((Int32.ofInt (s : Int)).toUInt32 &&& Int32.toUInt32 31)).toBitVec = _
      rw [UInt32.toBitVec_shiftRight]
      show v.toBitVec >>> (((Int32.ofInt (s : Int)).toUInt32 &&& Int32.toUInt32 31).toBitVec % 32#32).toNat = _
      rw [BitVec.toNat_umod]
      show v.toBitVec >>> (((Int32.ofInt (s : Int)).toUInt32 &&& Int32.toUInt32 31).toBitVec.toNat % 32) = _
      rw [e1]
    have h2 : (v >>> (Int32.ofInt (s : Int) &&& 31)).toBitVec = v.toBitVec.sshiftRight s := by
      rw [Int32.toBitVec_shiftRight]
      show v.toBitVec.sshiftRight ((Int32.ofInt (s : Int) &&& 31).toBitVec.smod 32#32).toNat = _
      rw [e2]
    rw [Int32.toBitVec_and, h1]
    have h3 : ∀ i : Nat, i < 32 → (Int32.ofInt 255).toBitVec.getLsbD i = decide (i < 8) := by decide +kernel
    apply BitVec.eq_of_getLsbD_eq
    intro i hi
    rw [BitVec.getLsbD_and, h3 i hi, BitVec.getLsbD_ushiftRight]
    show _ = (BitVec.ofInt 32 (((v >>> (Int32.ofInt (s : Int) &&& 31)).toInt8.toBitVec.toNat : Nat) : Int)).getLsbD i
    rw [BitVec.ofInt_natCast, BitVec.getLsbD_ofNat, BitVec.testBit_toNat, Int32.toBitVec_toInt8, h2, BitVec.getLsbD_signExtend, BitVec.getLsbD_sshiftRight]
    by_cases h8 : i < 8
    · have a1 : s + i < 32 := by omega
      simp [h8, hi, a1]
    · simp [h8]
  · rw [show ∀ i : Int8, i.toInt32.toInt8 = i from fun i => by simp, sg_i8]
def bU (v : Int32) (i : Nat) : Int32 := (v.toUInt32 >>> ((Int32.ofInt ((24 - 8 * i : Nat) : Int)).toUInt32 &&& Int32.toUInt32 31)).toInt32 &&& Int32.ofInt 255
def bS (v : Int32) (i : Nat) : Int32 := ((v >>> (Int32.ofInt ((24 - 8 * i : Nat) : Int) &&& 31)).toInt8.toInt32).toInt8.toInt32
def tpS (k0 t i j : Nat) : Prop := (t = 3 ∧ i = 0 ∧ j = 2) ∨ (t = 4 ∧ i = 0 ∧ k0 ≤ j)
def tpM (k0 t i j : Nat) : Prop := (t = 46 ∧ i = 0 ∧ j = 10) ∨ (t = 52 ∧ i = 0 ∧ k0 ≤ j)
theorem s_tapePut {CALL : CT} (hC : RuleAll CALL) {r : Nat} {σ : AM} {K : AV → AM → Prop} {k0 w : Nat} {vs : Nat → Int32} (hk : k0 + 4 * w + 4 ≤ 900) (h2 : σ.1 3 0 2 = Int32.ofInt ((k0 + 4 * w : Nat) : Int)) (hv : ∀ j, j < 4 * w → σ.1 4 0 (k0 + j) = bU (vs (j / 4)) (j % 4)) (h : ∀ σ' : AM, Ch (tpS k0) σ σ' → σ'.1 3 0 2 = Int32.ofInt ((k0 + 4 * (w + 1) : Nat) : Int) → (∀ j, j < 4 * (w + 1) → σ'.1 4 0 (k0 + j) = bU (vs (j / 4)) (j % 4)) → K unset σ') : CALL (r + 1) n_Tape_put [.inr (.inr (3, 0)), .inl (vs w)] σ K := by
  refine r_Tape_put hC (fun J hJ => ?_)
  refine hJ _ _ _ _ ?_
  conv => whnf
  have loop : ∀ (d i : Nat) (σi : AM), i + d = 4 → Ch (tpS k0) σ σi → σi.1 3 0 2 = Int32.ofInt ((k0 + 4 * w + i : Nat) : Int) → (∀ j, j < 4 * w + i → σi.1 4 0 (k0 + j) = bU (vs (j / 4)) (j % 4)) → J 16 [.inr (.inr (3, 0)), .inl (vs w), .inl (Int32.ofInt (24 - 8 * (i : Int)))] [] σi := by
    intro d
    induction d with
    | zero =>
      intro i σi hi hc g1 g2
      have : i = 4 := by omega
      subst this
      refine hJ _ _ _ _ ?_
      conv => whnf
      refine ⟨fun c => ?_, fun c => ?_⟩ <;> (try simp (disch := omega) only [oi_le, oi_lt, oi_eq, oi_lt0, oi_le0, oi_0lt, oi_0le, oi_eq0, oi_eq1, bI_eq0, bI_ne0, bI_eq1, decide_eq_true_eq, decide_eq_false_iff_not, lc_lt, lc_gt, lc_eq, lc_ge, lc_le, ol_lt, ol_eq, ne_eq, Int.not_lt, Int.not_le, Bool.not_eq_true, Bool.not_eq_false, Decidable.not_not, not_true_eq_false, not_false_eq_true, Bool.true_eq_false, Bool.false_eq_true] at c) <;> (first | (exfalso; omega) | ((with_reducible refine hJ _ _ _ _ ?_); conv => whnf) | (conv => whnf))
      exact h σi hc g1 g2
    | succ d ih =>
      intro i σi hi hc g1 g2
      refine hJ _ _ _ _ ?_
      conv => whnf
      refine ⟨fun c => ?_, fun c => ?_⟩ <;> (try simp (disch := omega) only [oi_le, oi_lt, oi_eq, oi_lt0, oi_le0, oi_0lt, oi_0le, oi_eq0, oi_eq1, bI_eq0, bI_ne0, bI_eq1, decide_eq_true_eq, decide_eq_false_iff_not, lc_lt, lc_gt, lc_eq, lc_ge, lc_le, ol_lt, ol_eq, ne_eq, Int.not_lt, Int.not_le, Bool.not_eq_true, Bool.not_eq_false, Decidable.not_not, not_true_eq_false, not_false_eq_true, Bool.true_eq_false, Bool.false_eq_true] at c) <;> (first | (exfalso; omega) | ((with_reducible refine hJ _ _ _ _ ?_); conv => whnf) | (conv => whnf))
      rw [g1]
      refine ⟨(oi_in (by omega) (by omega)).mpr ⟨by omega, by omega⟩, ?_⟩
      conv => whnf
      rw [oi_nat (by omega) (by omega), Int.toNat_natCast, wI1, if_neg (by omega), g1, oi_succ, oi_add, show (24 - 8 * (i : Int)) + -8 = 24 - 8 * ((i + 1 : Nat) : Int) by omega]
      refine ih (i + 1) _ (by omega) ((hc.tr (Ch.wI (Or.inr ⟨rfl, rfl, by omega⟩))).tr (Ch.wI (Or.inl ⟨rfl, rfl, rfl⟩))) ?_ (fun j hj => ?_)
      · rw [wI_16]
        rfl
      · rw [wI1, if_neg (by omega), wI1]
        by_cases e : k0 + j = k0 + 4 * w + i
        · rw [if_pos ⟨rfl, rfl, e⟩, show j / 4 = w by omega, show j % 4 = i by omega, show (24 - 8 * (i : Int)) = ((24 - 8 * i : Nat) : Int) by omega]
          rfl
        · rw [if_neg (by omega)]
          exact g2 j (by omega)
  rw [h2, oi_add]
  refine ⟨fun c => ?_, fun c => ?_⟩ <;> (try simp (disch := omega) only [oi_le, oi_lt, oi_eq, oi_lt0, oi_le0, oi_0lt, oi_0le, oi_eq0, oi_eq1, bI_eq0, bI_ne0, bI_eq1, decide_eq_true_eq, decide_eq_false_iff_not, lc_lt, lc_gt, lc_eq, lc_ge, lc_le, ol_lt, ol_eq, ne_eq, Int.not_lt, Int.not_le, Bool.not_eq_true, Bool.not_eq_false, Decidable.not_not, not_true_eq_false, not_false_eq_true, Bool.true_eq_false, Bool.false_eq_true] at c) <;> (first | (exfalso; omega) | ((with_reducible refine hJ _ _ _ _ ?_); conv => whnf) | (conv => whnf))
  exact loop 4 0 σ (by omega) Ch.rf h2 hv
theorem s_m_four {CALL : CT} (hC : RuleAll CALL) {r : Nat} {σ : AM} {K : AV → AM → Prop} {k0 w : Nat} {vs : Nat → Int32} (hk : k0 + 4 * w + 4 ≤ 900) (h2 : σ.1 46 0 10 = Int32.ofInt ((k0 + 4 * w : Nat) : Int)) (hv : ∀ j, j < 4 * w → σ.1 52 0 (k0 + j) = bS (vs (j / 4)) (j % 4)) (h : ∀ σ' : AM, Ch (tpM k0) σ σ' → σ'.1 46 0 10 = Int32.ofInt ((k0 + 4 * (w + 1) : Nat) : Int) → (∀ j, j < 4 * (w + 1) → σ'.1 52 0 (k0 + j) = bS (vs (j / 4)) (j % 4)) → K unset σ') : CALL (r + 1) n_m_four [.inr (.inr (46, 0)), .inl (vs w)] σ K := by
  refine r_m_four hC (fun J hJ => ?_)
  refine hJ _ _ _ _ ?_
  conv => whnf
  have loop : ∀ (d i : Nat) (σi : AM), i + d = 4 → Ch (tpM k0) σ σi → σi.1 46 0 10 = Int32.ofInt ((k0 + 4 * w + i : Nat) : Int) → (∀ j, j < 4 * w + i → σi.1 52 0 (k0 + j) = bS (vs (j / 4)) (j % 4)) → J 3 [.inr (.inr (46, 0)), .inl (vs w), .inl (Int32.ofInt (24 - 8 * (i : Int)))] [] σi := by
    intro d
    induction d with
    | zero =>
      intro i σi hi hc g1 g2
      have : i = 4 := by omega
      subst this
      refine hJ _ _ _ _ ?_
      conv => whnf
      refine ⟨fun c => ?_, fun c => ?_⟩ <;> (try simp (disch := omega) only [oi_le, oi_lt, oi_eq, oi_lt0, oi_le0, oi_0lt, oi_0le, oi_eq0, oi_eq1, bI_eq0, bI_ne0, bI_eq1, decide_eq_true_eq, decide_eq_false_iff_not, lc_lt, lc_gt, lc_eq, lc_ge, lc_le, ol_lt, ol_eq, ne_eq, Int.not_lt, Int.not_le, Bool.not_eq_true, Bool.not_eq_false, Decidable.not_not, not_true_eq_false, not_false_eq_true, Bool.true_eq_false, Bool.false_eq_true] at c) <;> (first | (exfalso; omega) | ((with_reducible refine hJ _ _ _ _ ?_); conv => whnf) | (conv => whnf))
      exact h σi hc g1 g2
    | succ d ih =>
      intro i σi hi hc g1 g2
      refine hJ _ _ _ _ ?_
      conv => whnf
      refine ⟨fun c => ?_, fun c => ?_⟩ <;> (try simp (disch := omega) only [oi_le, oi_lt, oi_eq, oi_lt0, oi_le0, oi_0lt, oi_0le, oi_eq0, oi_eq1, bI_eq0, bI_ne0, bI_eq1, decide_eq_true_eq, decide_eq_false_iff_not, lc_lt, lc_gt, lc_eq, lc_ge, lc_le, ol_lt, ol_eq, ne_eq, Int.not_lt, Int.not_le, Bool.not_eq_true, Bool.not_eq_false, Decidable.not_not, not_true_eq_false, not_false_eq_true, Bool.true_eq_false, Bool.false_eq_true] at c) <;> (first | (exfalso; omega) | ((with_reducible refine hJ _ _ _ _ ?_); conv => whnf) | (conv => whnf))
      rw [g1]
      refine ⟨(oi_in (by omega) (by omega)).mpr ⟨by omega, by omega⟩, ?_⟩
      conv => whnf
      rw [oi_nat (by omega) (by omega), Int.toNat_natCast, wI1, if_neg (by omega), g1, oi_succ, oi_add, show (24 - 8 * (i : Int)) + -8 = 24 - 8 * ((i + 1 : Nat) : Int) by omega]
      refine ih (i + 1) _ (by omega) ((hc.tr (Ch.wI (Or.inr ⟨rfl, rfl, by omega⟩))).tr (Ch.wI (Or.inl ⟨rfl, rfl, rfl⟩))) ?_ (fun j hj => ?_)
      · rw [wI_16]
        rfl
      · rw [wI1, if_neg (by omega), wI1]
        by_cases e : k0 + j = k0 + 4 * w + i
        · rw [if_pos ⟨rfl, rfl, e⟩, show j / 4 = w by omega, show j % 4 = i by omega, show (24 - 8 * (i : Int)) = ((24 - 8 * i : Nat) : Int) by omega]
          rfl
        · rw [if_neg (by omega)]
          exact g2 j (by omega)
  exact loop 4 0 σ (by omega) Ch.rf h2 hv
def tpA (t i j : Nat) : Prop := (t = 3 ∧ i = 0 ∧ j = 2) ∨ t = 4 ∨ (t = 46 ∧ i = 0 ∧ j = 10) ∨ t = 52
theorem Rel.tape {σ σ' : AM} (hR : Rel σ) (hc : Ch tpA σ σ') (ht : TapeR σ') : Rel σ' := by
  obtain ⟨⟨n, p, h, n45, hp, r1, r2, r3, r4, hh⟩, ⟨b1, b2, b3, b4, b5, b6, b7⟩, st⟩ := hR
  obtain ⟨s1, s2⟩ := hc
  have s2' : ∀ t i j, σ'.2.1 t i j = σ.2.1 t i j := fun t i j => by rw [s2]
  refine ⟨⟨n, p, h, n45, hp, by rw [s2, r1], by rw [s2, r2], by rw [s2, r3], by rw [s2, r4], ?_⟩, ⟨?_, ?_, ht, ?_, ?_, ?_, ?_⟩, ?_⟩
  · refine hh.cg (fun t j hin => s1 _ _ _ ?_) (fun t j hin => s2' _ _ _) (fun j hj => s1 _ _ _ ?_) (fun j hj => s2' _ _ _) (s1 _ _ _ ?_) (s1 _ _ _ ?_) (fun k _ t a b => s1 _ _ _ ?_)
    · unfold inHI at hin; unfold tpA; omega
    all_goals (unfold tpA; omega)
  · exact b1.c2 (s1 _ _ _ (by unfold tpA; omega)) (s1 _ _ _ (by unfold tpA; omega)) (fun t i j q => s1 _ _ _ (by unfold tpA; omega)) (fun t i j q => s2' _ _ _)
  · obtain ⟨M, S, ht⟩ := b2.tm
    exact TrM.tr (ht.w (fun t i j q => s1 _ _ _ (by unfold tpA; omega)) (fun t j t4 hj => by rw [s2', s2']; exact ht.old t4 hj))
  · exact b4.c2 (s1 _ _ _ (by unfold tpA; omega)) (s1 _ _ _ (by unfold tpA; omega)) (s1 _ _ _ (by unfold tpA; omega)) (s1 _ _ _ (by unfold tpA; omega))
  · exact b5.c2 (fun j _ => s1 _ _ _ (by unfold tpA; omega)) (fun j => s1 _ _ _ (by unfold tpA; omega)) (s1 _ _ _ (by unfold tpA; omega))
  · exact b6.c2 (s2' _ _ _) (s2' _ _ _) (s2' _ _ _) (s2' _ _ _)
  · exact b7.c2 (fun j => s2' _ _ _)
  · rw [s1 1 0 16 (by unfold tpA; omega), s1 46 0 2 (by unfold tpA; omega)]
    exact st
theorem op_feed {CALL : CT} (hC : RuleAll CALL) {r : Nat} {σ : AM} {K : AV → AV → AM → Prop} (hR : Rel σ) {a0 a1 a2 a3 a4 : Int32} (h : ∀ v σ2, Rel σ2 → K v v σ2) : CALL (r + 20) n_x_feed [.inr (.inr (1, 0)), .inl a0, .inl a1, .inl a2, .inl a3, .inl a4] σ (fun v σ1 => CALL (r + 20) n_m_feed [.inr (.inr (46, 0)), .inl a0, .inl a1, .inl a2, .inl a3, .inl a4] σ1 (fun v' σ2 => K v v' σ2)) := by
  obtain ⟨⟨n, p, h0, ha⟩, hb, hst⟩ := id hR
  have hn := ha.nh
  obtain ⟨n45, hnn, hr, hm, ⟨hw, hw67⟩, h59⟩ := id hn
  have b := hw.1
  have hsy : SymE h0 := ha.2.2.2.2.2.2.2.2.2.2.1
  obtain ⟨q0, q1, q2, q3, q4, q5, q6, q7, q8, q9, qa, qt, qm, qe⟩ := id hr
  obtain ⟨k, k9, t1, t2, t3⟩ := hb.2.2.1
  refine r_x_feed hC (fun J hJ => ?_)
  refine hJ _ _ _ _ ?_
  conv => whnf
  rw [t1, oi_add]
  refine ⟨fun c => ?_, fun c => ?_⟩ <;> (try simp (disch := omega) only [oi_le, oi_lt, oi_eq, oi_lt0, oi_le0, oi_0lt, oi_0le, oi_eq0, oi_eq1, bI_eq0, bI_ne0, bI_eq1, decide_eq_true_eq, decide_eq_false_iff_not, lc_lt, lc_gt, lc_eq, lc_ge, lc_le, ol_lt, ol_eq, ne_eq, Int.not_lt, Int.not_le, Bool.not_eq_true, Bool.not_eq_false, Decidable.not_not, not_true_eq_false, not_false_eq_true, Bool.true_eq_false, Bool.false_eq_true] at c) <;> (first | (exfalso; omega) | ((with_reducible refine hJ _ _ _ _ ?_); conv => whnf) | (conv => whnf))
  · generalize hvs : (fun w : Nat => match w with | 0 => a0 | 1 => a1 | 2 => a2 | 3 => a3 | _ => a4) = vs
    have v0 : a0 = vs 0 := by rw [← hvs]; rfl
    have v1 : a1 = vs 1 := by rw [← hvs]; rfl
    have v2 : a2 = vs 2 := by rw [← hvs]; rfl
    have v3 : a3 = vs 3 := by rw [← hvs]; rfl
    have v4 : a4 = vs 4 := by rw [← hvs]; rfl
    rw [v0, v1, v2, v3, v4]
    refine s_tapePut hC (k0 := k) (w := 0) (by omega) t1 (fun j hj => by omega) (fun τ1 c1 e1 f1 => ?_)
    conv => whnf
    refine s_tapePut hC (k0 := k) (w := 1) (by omega) e1 f1 (fun τ2 c2 e2 f2 => ?_)
    conv => whnf
    refine s_tapePut hC (k0 := k) (w := 2) (by omega) e2 f2 (fun τ3 c3 e3 f3 => ?_)
    conv => whnf
    refine s_tapePut hC (k0 := k) (w := 3) (by omega) e3 f3 (fun τ4 c4 e4 f4 => ?_)
    conv => whnf
    refine s_tapePut hC (k0 := k) (w := 4) (by omega) e4 f4 (fun τ5 c5 e5 f5 => ?_)
    conv => whnf
    have cx := (((c1.tr c2).tr c3).tr c4).tr c5
    rw [e5]
    have u2 : τ5.1 46 0 10 = Int32.ofInt (k : Int) := by rw [cx.1 46 0 10 (by unfold tpS; omega), t2]
    refine r_m_feed hC (fun J hJ => ?_)
    refine hJ _ _ _ _ ?_
    conv => whnf
    rw [u2, oi_add]
    refine ⟨fun c' => ?_, fun c' => ?_⟩ <;> (try simp (disch := omega) only [oi_le, oi_lt, oi_eq, oi_lt0, oi_le0, oi_0lt, oi_0le, oi_eq0, oi_eq1, bI_eq0, bI_ne0, bI_eq1, decide_eq_true_eq, decide_eq_false_iff_not, lc_lt, lc_gt, lc_eq, lc_ge, lc_le, ol_lt, ol_eq, ne_eq, Int.not_lt, Int.not_le, Bool.not_eq_true, Bool.not_eq_false, Decidable.not_not, not_true_eq_false, not_false_eq_true, Bool.true_eq_false, Bool.false_eq_true] at c') <;> (first | (exfalso; omega) | ((with_reducible refine hJ _ _ _ _ ?_); conv => whnf) | (conv => whnf))
    refine s_m_four hC (k0 := k) (w := 0) (by omega) u2 (fun j hj => by omega) (fun ρ1 d1 g1 i1 => ?_)
    conv => whnf
    refine s_m_four hC (k0 := k) (w := 1) (by omega) g1 i1 (fun ρ2 d2 g2 i2 => ?_)
    conv => whnf
    refine s_m_four hC (k0 := k) (w := 2) (by omega) g2 i2 (fun ρ3 d3 g3 i3 => ?_)
    conv => whnf
    refine s_m_four hC (k0 := k) (w := 3) (by omega) g3 i3 (fun ρ4 d4 g4 i4 => ?_)
    conv => whnf
    refine s_m_four hC (k0 := k) (w := 4) (by omega) g4 i4 (fun ρ5 d5 g5 i5 => ?_)
    conv => whnf
    have dx := (((d1.tr d2).tr d3).tr d4).tr d5
    rw [g5]
    refine h _ _ (hR.tape ((cx.mo (fun t i j q => ?_)).tr (dx.mo (fun t i j q => ?_))) ⟨k + 4 * (4 + 1), by omega, ?_, g5, fun j hj => ?_⟩)
    · unfold tpS at q; unfold tpA; omega
    · unfold tpM at q; unfold tpA; omega
    · rw [dx.1 3 0 2 (by unfold tpM; omega), e5]
    · by_cases jk : j < k
      · rw [dx.1 4 0 j (by unfold tpM; omega), cx.1 4 0 j (by unfold tpS; omega), dx.1 52 0 j (by unfold tpM; omega), cx.1 52 0 j (by unfold tpS; omega)]
        exact t3 j jk
      · obtain ⟨q, rfl⟩ : ∃ q, j = k + q := ⟨j - k, by omega⟩
        rw [dx.1 4 0 (k + q) (by unfold tpM; omega), f5 q (by omega), i5 q (by omega)]
        exact byte_w (vs (q / 4)) (24 - 8 * (q % 4)) (by omega)
  · refine r_m_feed hC (fun J hJ => ?_)
    refine hJ _ _ _ _ ?_
    conv => whnf
    rw [t2, oi_add]
    refine ⟨fun c' => ?_, fun c' => ?_⟩ <;> (try simp (disch := omega) only [oi_le, oi_lt, oi_eq, oi_lt0, oi_le0, oi_0lt, oi_0le, oi_eq0, oi_eq1, bI_eq0, bI_ne0, bI_eq1, decide_eq_true_eq, decide_eq_false_iff_not, lc_lt, lc_gt, lc_eq, lc_ge, lc_le, ol_lt, ol_eq, ne_eq, Int.not_lt, Int.not_le, Bool.not_eq_true, Bool.not_eq_false, Decidable.not_not, not_true_eq_false, not_false_eq_true, Bool.true_eq_false, Bool.false_eq_true] at c') <;> (first | (exfalso; omega) | ((with_reducible refine hJ _ _ _ _ ?_); conv => whnf) | (conv => whnf))
    exact h _ _ hR
