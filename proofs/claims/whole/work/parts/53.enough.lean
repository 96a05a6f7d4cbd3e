/-! a set that is awake -/
def setA (h : Nat → Int) (a j : Nat) : Int := if 27 ≤ j ∧ (j - 27) % 7 = 0 ∧ ((((j - 27) / 7 : Nat)) : Int) < h 1 then (if a.testBit ((j - 27) / 7) then 1 else 0) else h j
theorem setA_3 (h : Nat → Int) (a : Nat) {m : Nat} (hm : (m : Int) < h 1) : setA h a (27 + 7 * m) = if a.testBit m then 1 else 0 := by
  unfold setA
  rw [show 27 + 7 * m - 27 = 7 * m by omega, Nat.mul_div_cancel_left m (by omega), if_pos ⟨by omega, by omega, hm⟩]
theorem setA_o (h : Nat → Int) (a : Nat) {j : Nat} (hj : ¬ (27 ≤ j ∧ (j - 27) % 7 = 0 ∧ ((((j - 27) / 7 : Nat)) : Int) < h 1)) : setA h a j = h j := by
  unfold setA
  rw [if_neg hj]
theorem setA_WF {h : Nat → Int} {a : Nat} (hw : WP h) : WP (setA h a) := by
  obtain ⟨⟨b, ht, hm, he⟩, h6, h7⟩ := hw
  have lo : ∀ j, j < 27 → setA h a j = h j := fun j hj => setA_o h a (by omega)
  refine ⟨⟨?_, fun t q => ?_, fun m q => ?_, fun e q => ?_⟩, ?_, ?_⟩
  · rw [lo 0 (by omega), lo 1 (by omega), lo 2 (by omega), lo 3 (by omega), lo 4 (by omega), lo 5 (by omega), lo 6 (by omega), lo 7 (by omega), lo 8 (by omega), lo 9 (by omega)]
    exact b
  · rw [lo 0 (by omega)] at q
    have := ht t q
    rw [lo _ (by omega), lo _ (by omega)]
    exact this
  · rw [lo 1 (by omega)] at q
    have hq := hm m q
    rw [setA_o h a (j := 24 + 7 * m) (by omega), setA_o h a (j := 25 + 7 * m) (by omega), setA_o h a (j := 26 + 7 * m) (by omega), setA_3 h a q, setA_o h a (j := 28 + 7 * m) (by omega), setA_o h a (j := 29 + 7 * m) (by omega), setA_o h a (j := 30 + 7 * m) (by omega), lo 5 (by omega)]
    split <;> omega
  · rw [lo 2 (by omega)] at q
    have hq := he e q
    rw [setA_o h a (j := 73 + 2 * e) (by omega), setA_o h a (j := 74 + 2 * e) (by omega), lo 0 (by omega), lo 1 (by omega)]
    exact hq
  · rw [lo 6 (by omega), lo 5 (by omega)]; exact h6
  · rw [lo 7 (by omega), lo 5 (by omega)]; exact h7
theorem setA_aw {h : Nat → Int} {a : Nat} (hw : WF h) (ha : a < 2 ^ (h 1).toNat) : awS (setA h a) = a := by
  have b := hw.1
  apply Nat.eq_of_testBit_eq
  intro k
  rw [awS_bit, setA_o h a (j := 1) (by omega)]
  by_cases hk : (k : Int) < h 1
  · rw [setA_3 h a hk]
    cases a.testBit k <;> simp [hk] <;> omega
  · have : a.testBit k = false := Nat.testBit_lt_two_pow (Nat.lt_of_lt_of_le ha (Nat.pow_le_pow_right (by omega) (by omega)))
    rw [this]
    simp [hk]
theorem hrep_sa {σ : AM} {n a : Nat} {h : Nat → Int} (hr : HRep σ n h) (hw : WF h) (ha : a < 2 ^ (h 1).toNat) : HRep (wI σ 27 n 7 (Int32.ofInt (a : Int))) n (setA h a) := by
  have b := hw.1
  have lo : ∀ j, j < 27 → setA h a j = h j := fun j hj => setA_o h a (by omega)
  have e : ∀ t i j, ¬ (t = 27 ∧ j = 7) → (wI σ 27 n 7 (Int32.ofInt (a : Int))).1 t i j = σ.1 t i j := fun t i j q => by rw [wI1, if_neg (by omega)]
  obtain ⟨q0, q1, q2, q3, q4, q5, q6, q7, q8, q9, qa, qt, qm, qe⟩ := hr
  refine ⟨?_, ?_, ?_, ?_, ?_, ?_, ?_, ?_, ?_, ?_, ?_, fun t q => ?_, fun m q => ?_, fun k q => ?_⟩
  · rw [e _ _ _ (by omega), lo 0 (by omega)]; exact q0
  · rw [e _ _ _ (by omega), lo 1 (by omega)]; exact q1
  · rw [e _ _ _ (by omega), lo 2 (by omega)]; exact q2
  · rw [e _ _ _ (by omega), lo 3 (by omega)]; exact q3
  · rw [e _ _ _ (by omega), lo 4 (by omega)]; exact q4
  · rw [e _ _ _ (by omega), lo 5 (by omega)]; exact q5
  · rw [e _ _ _ (by omega), lo 6 (by omega)]; exact q6
  · rw [e _ _ _ (by omega), lo 7 (by omega)]; exact q7
  · rw [e _ _ _ (by omega), lo 8 (by omega)]; exact q8
  · rw [e _ _ _ (by omega), lo 9 (by omega)]; exact q9
  · rw [wI1, if_pos ⟨rfl, rfl, rfl⟩, setA_aw hw ha]
  · rw [lo 0 (by omega)] at q
    have := qt t q
    rw [e _ _ _ (by omega), e _ _ _ (by omega), lo (12 + 2 * t) (by omega), lo (13 + 2 * t) (by omega)]
    exact this
  · rw [lo 1 (by omega)] at q
    have := qm m q
    rw [e _ _ _ (by omega), e _ _ _ (by omega), e _ _ _ (by omega), e _ _ _ (by omega), e _ _ _ (by omega), e _ _ _ (by omega), setA_o h a (j := 24 + 7 * m) (by omega), setA_o h a (j := 25 + 7 * m) (by omega), setA_o h a (j := 26 + 7 * m) (by omega), setA_o h a (j := 28 + 7 * m) (by omega), setA_o h a (j := 29 + 7 * m) (by omega), setA_o h a (j := 30 + 7 * m) (by omega)]
    exact this
  · rw [lo 2 (by omega)] at q
    have := qe k q
    rw [e _ _ _ (by omega), e _ _ _ (by omega), setA_o h a (j := 73 + 2 * k) (by omega), setA_o h a (j := 74 + 2 * k) (by omega)]
    exact this
/-- enough for so many minutes -/
def enS (h : Nat → Int) (k a : Nat) : Bool := decide (fpS (setA h a) k = none)
theorem opI_n {o : Option Nat} : opI o = -1 ↔ o = none := by
  cases o with
  | none => exact ⟨fun _ => rfl, fun _ => rfl⟩
  | some t => exact ⟨fun z => by have : (t : Int) = -1 := z; omega, fun z => by cases z⟩
theorem fpS_bd (h : Nat → Int) (k : Nat) : -1 ≤ opI (fpS h k) ∧ opI (fpS h k) ≤ k := by
  cases hf : fpS h k with
  | none => exact ⟨by decide, by show (-1 : Int) ≤ k; omega⟩
  | some t =>
    have := firstF_ge hf
    show -1 ≤ (t : Int) ∧ (t : Int) ≤ k
    omega
theorem s_suffices {CALL : CT} (hC : RuleAll CALL) {r : Nat} {σ : AM} {K : AV → AM → Prop} {n k a : Nat} {h0 : Nat → Int} (hr : HRep σ n h0) (hw : WP h0) (hn : 4 ≤ n) (h5 : h0 5 + k ≤ 20000) (ha : a < 2 ^ (h0 1).toNat) (h : ∀ σ' : AM, Fr (HS 0) σ σ' → σ'.2.2 = σ.2.2 → K (.inl (bI (enS h0 k a))) σ') : CALL (r + 6) n_Ahead_suffices [.inr (.inr (11, 0)), .inr (.inr (22, n)), .inl (Int32.ofInt a), .inl (Int32.ofInt k)] σ K := by
  refine r_Ahead_suffices hC (fun J hJ => ?_)
  refine hJ _ _ _ _ ?_
  conv => whnf
  have b := hw.1.1
  have hne : n ≠ 0 := by omega
  refine ⟨(oi_in (by omega) (by omega)).mpr ⟨by omega, by omega⟩, ?_⟩
  conv => whnf
  refine s_houseCopy hC hne ?_
  conv => whnf
  have sw := setA_WF (a := a) hw
  have l5 : setA h0 a 5 = h0 5 := setA_o h0 a (by omega)
  refine s_firstPauseOf hC (hrep_sa (hr.hou hw.1 hne) hw.1 ha) sw (by omega) ?_
  intro σ2 f1 f2
  have fb := fpS_bd (setA h0 a) k
  have fr : Fr (HS 0) σ σ2 := (houC_fr.tr (Fr.wI ⟨by omega, by omega, rfl⟩)).tr f1
  have hh := h σ2 fr (by rw [f2]; rfl)
  conv => whnf
  refine ⟨fun c => ?_, fun c => ?_⟩ <;> (try simp (disch := omega) only [oi_le, oi_lt, oi_eq, oi_lt0, oi_le0, oi_0lt, oi_0le, oi_eq0, oi_eq1, bI_eq0, bI_ne0, bI_eq1, decide_eq_true_eq, decide_eq_false_iff_not, lc_lt, lc_gt, lc_eq, lc_ge, lc_le, ol_lt, ol_eq, ne_eq, Int.not_lt, Int.not_le, Bool.not_eq_true, Bool.not_eq_false, Decidable.not_not, not_true_eq_false, not_false_eq_true, Bool.true_eq_false, Bool.false_eq_true] at c) <;> (first | (exfalso; omega) | ((with_reducible refine hJ _ _ _ _ ?_); conv => whnf) | (conv => whnf))
  · refine hJ _ _ _ _ ?_
    conv => whnf
    rw [show enS h0 k a = false from decide_eq_false (fun z => c (opI_n.mpr z))] at hh
    exact ⟨Or.inl rfl, hh⟩
  · refine hJ _ _ _ _ ?_
    conv => whnf
    rw [show enS h0 k a = true from decide_eq_true (opI_n.mp c)] at hh
    exact ⟨Or.inr rfl, hh⟩
theorem s_isSet {CALL : CT} (hC : RuleAll CALL) {r : Nat} {σ : AM} {K : AV → AM → Prop} {n : Nat} {h0 : Nat → Int} {z : Int} (hn : NH σ n h0) (h1 : -2147483648 ≤ z) (h2 : z < 2147483648) (h : K (.inl (bI (decide (0 ≤ z ∧ z < ((2 ^ (h0 1).toNat : Nat) : Int))))) σ) : CALL (r + 2) n_x_isSet [.inr (.inr (1, 0)), .inl (Int32.ofInt z)] σ K := by
  refine r_x_isSet hC (fun J hJ => ?_)
  refine hJ _ _ _ _ ?_
  conv => whnf
  obtain ⟨n45, hnn, hr, hm, ⟨hw, -⟩, -⟩ := hn
  have b := hw.1
  have hp : (2 : Nat) ^ (h0 1).toNat ≤ 2 ^ 7 := Nat.pow_le_pow_right (by omega) (by omega)
  rw [hnn]
  refine ⟨by omega, ?_⟩
  conv => whnf
  have hp0 : 0 < (2 : Nat) ^ (h0 1).toNat := Nat.pow_pos (by omega)
  have e0 : Int32.ofInt 1 <<< (Int32.ofInt (h0 1) &&& 31) = Int32.ofInt ((2 ^ (h0 1).toNat : Nat) : Int) := by
    rw [show Int32.ofInt (h0 1) = Int32.ofInt (((h0 1).toNat : Nat) : Int) by congr 1; omega, oi_shl (by omega)]
  rw [hr.2.1, e0, oi_sub]
  generalize 2 ^ (h0 1).toNat = P at *
  refine s_withinI hC (by omega) (by omega) (by omega) (by omega) (by omega) (by omega) ?_
  conv => whnf
  have e : decide (0 ≤ z ∧ z ≤ (P : Int) - 1) = decide (0 ≤ z ∧ z < (P : Int)) := decide_eq_decide.mpr (by omega)
  rw [e]
  exact ⟨bI_01 _, h⟩
theorem lsh_key : ∀ k : Fin 8, (Int64.ofInt 1 <<< ((Int32.ofInt (k.val : Int)).toInt64 &&& 63)) - Int64.ofInt 1 = Int64.ofInt (((2 ^ k.val : Nat) : Int) - 1) := by decide +kernel
theorem lsh2 {h0 : Nat → Int} {x y : Int} (hw : WF h0) (hx : x = 1) (hy : y = 1) : (Int64.ofInt x <<< ((Int32.ofInt (h0 1)).toInt64 &&& 63)) - Int64.ofInt y = Int64.ofInt (((2 ^ (h0 1).toNat : Nat) : Int) - 1) := by
  have b := hw.1
  subst hx hy
  have := lsh_key ⟨(h0 1).toNat, by omega⟩
  simp only at this
  rw [show h0 1 = (((h0 1).toNat : Nat) : Int) by omega]
  exact this
theorem s_m_areMonks {CALL : CT} (hC : RuleAll CALL) {r : Nat} {σ : AM} {K : AV → AM → Prop} {h0 : Nat → Int} {z : Int} (hm : M0 σ h0) (hw : WF h0) (h1 : -2147483648 ≤ z) (h2 : z < 2147483648) (h : K (.inl (bI (decide (0 ≤ z ∧ z < ((2 ^ (h0 1).toNat : Nat) : Int))))) σ) : CALL (r + 2) n_m_areMonks [.inr (.inr (46, 0)), .inl (Int32.ofInt z)] σ K := by
  refine r_m_areMonks hC (fun J hJ => ?_)
  refine hJ _ _ _ _ ?_
  conv => whnf
  have b := hw.1
  have hp : (2 : Nat) ^ (h0 1).toNat ≤ 2 ^ 7 := Nat.pow_le_pow_right (by omega) (by omega)
  have hp0 : 0 < (2 : Nat) ^ (h0 1).toNat := Nat.pow_pos (by omega)
  refine ⟨(oi_in (by omega) (by omega)).mpr ⟨by omega, by omega⟩, ?_⟩
  conv => whnf
  rw [show (Int32.ofInt 1).toNatClampNeg = 1 from rfl, hm 1 (by omega)]
  rw [oi_l h1 h2]
  change CALL _ _ [.inr (.inl (Int64.ofInt z)), .inr (.inl (Int64.ofInt 0)), .inr (.inl (Int64.ofInt 1 <<< ((Int32.ofInt (h0 1)).toInt64 &&& 63) - Int64.ofInt 1))] _ _
  rw [lsh2 hw rfl rfl]
  generalize 2 ^ (h0 1).toNat = P at *
  refine s_m_isFrom hC (a := 0) (by omega) (by omega) (by omega) (by omega) (by omega) (by omega) ?_
  conv => whnf
  have e : decide (0 ≤ z ∧ z ≤ (P : Int) - 1) = decide (0 ≤ z ∧ z < (P : Int)) := decide_eq_decide.mpr (by omega)
  rw [e]
  exact ⟨bI_01 _, h⟩

/-! how many are in a set, one by one -/
theorem bits_key : ∀ a : Fin 128, a.val ≠ 0 → a.val &&& (a.val - 1) < a.val ∧ cnt a.val = cnt (a.val &&& (a.val - 1)) + 1 := by decide +kernel
theorem cnt_le : ∀ a : Fin 128, cnt a.val ≤ 7 := by decide +kernel
theorem s_m_bits {CALL : CT} (hC : RuleAll CALL) {r : Nat} {σ : AM} {K : AV → AM → Prop} {a : Nat} (ha : a < 128) (h : K (.inl (Int32.ofInt (cnt a))) σ) : CALL (r + 1) n_m_bits [.inl (Int32.ofInt a)] σ K := by
  refine r_m_bits hC (fun J hJ => ?_)
  refine hJ _ _ _ _ ?_
  conv => whnf
  have c0 := cnt_le ⟨a, ha⟩
  simp only at c0
  have loop : ∀ (q b c : Nat), b ≤ q → b < 128 → c + cnt b = cnt a → J 4 [.inl (Int32.ofInt (a : Int)), .inl (Int32.ofInt (c : Int)), .inl (Int32.ofInt (b : Int))] [] σ := by
    intro q
    induction q with
    | zero =>
      intro b c hb hb2 hc
      have : b = 0 := by omega
      subst this
      have e : c = cnt a := by
        have : cnt 0 = 0 := by decide
        omega
      subst e
      refine hJ _ _ _ _ ?_
      conv => whnf
      refine ⟨fun c2 => ?_, fun c2 => ?_⟩ <;> (try simp (disch := omega) only [oi_le, oi_lt, oi_eq, oi_lt0, oi_le0, oi_0lt, oi_0le, oi_eq0, oi_eq1, bI_eq0, bI_ne0, bI_eq1, decide_eq_true_eq, decide_eq_false_iff_not, lc_lt, lc_gt, lc_eq, lc_ge, lc_le, ol_lt, ol_eq, ne_eq, Int.not_lt, Int.not_le, Bool.not_eq_true, Bool.not_eq_false, Decidable.not_not, not_true_eq_false, not_false_eq_true, Bool.true_eq_false, Bool.false_eq_true] at c2) <;> (first | (exfalso; omega) | ((with_reducible refine hJ _ _ _ _ ?_); conv => whnf) | (conv => whnf))
      exact h
    | succ q ih =>
      intro b c hb hb2 hc
      by_cases hb0 : b = 0
      · exact ih b c (by omega) hb2 hc
      · have key := bits_key ⟨b, hb2⟩ hb0
        simp only at key
        refine hJ _ _ _ _ ?_
        conv => whnf
        refine ⟨fun c2 => ?_, fun c2 => ?_⟩ <;> (try simp (disch := omega) only [oi_le, oi_lt, oi_eq, oi_lt0, oi_le0, oi_0lt, oi_0le, oi_eq0, oi_eq1, bI_eq0, bI_ne0, bI_eq1, decide_eq_true_eq, decide_eq_false_iff_not, lc_lt, lc_gt, lc_eq, lc_ge, lc_le, ol_lt, ol_eq, ne_eq, Int.not_lt, Int.not_le, Bool.not_eq_true, Bool.not_eq_false, Decidable.not_not, not_true_eq_false, not_false_eq_true, Bool.true_eq_false, Bool.false_eq_true] at c2) <;> (first | (exfalso; omega) | ((with_reducible refine hJ _ _ _ _ ?_); conv => whnf) | (conv => whnf))
        rw [oi_sub, show ((b : Int) - 1) = ((b - 1 : Nat) : Int) by omega, oi_and, oi_succ]
        exact ih (b &&& (b - 1)) (c + 1) (by omega) (by omega) (by omega)
  exact loop a a 0 (by omega) ha (by omega)
def aS (t i j : Nat) : Prop := i = 0 ∧ ((t = 47 ∧ 2790 ≤ j) ∨ (t = 46 ∧ (j = 24 ∨ j = 25 ∨ j = 26)))
def setP (h : Nat → Int) (a i j : Nat) : Int := if 27 ≤ j ∧ (j - 27) % 7 = 0 ∧ (j - 27) / 7 < i ∧ ((((j - 27) / 7 : Nat)) : Int) < h 1 then (if a.testBit ((j - 27) / 7) then 1 else 0) else h j
theorem setP_lo (h : Nat → Int) (a i : Nat) {j : Nat} (hj : j < 27) : setP h a i j = h j := by
  unfold setP
  rw [if_neg (by omega)]
theorem setP_0 (h : Nat → Int) (a j : Nat) : setP h a 0 j = h j := by
  unfold setP
  rw [if_neg (by omega)]
theorem setP_all (h : Nat → Int) (a : Nat) {i j : Nat} (hi : i = (h 1).toNat) : setP h a i j = setA h a j := by
  unfold setP setA
  by_cases c2 : 27 ≤ j ∧ (j - 27) % 7 = 0 ∧ ((((j - 27) / 7 : Nat)) : Int) < h 1
  · rw [if_pos c2, if_pos ⟨c2.1, c2.2.1, by omega, c2.2.2⟩]
  · rw [if_neg c2, if_neg (by omega)]
theorem setP_s (h : Nat → Int) (a i j : Nat) : setP h a (i + 1) j = if j = 27 + 7 * i ∧ (i : Int) < h 1 then (if a.testBit i then 1 else 0) else setP h a i j := by
  unfold setP
  by_cases c : j = 27 + 7 * i ∧ (i : Int) < h 1
  · obtain ⟨e, c⟩ := c
    have e1 : j - 27 = 7 * i := by omega
    rw [if_pos (⟨e, c⟩ : j = 27 + 7 * i ∧ (i : Int) < h 1), e1, Nat.mul_div_cancel_left i (by omega), if_pos ⟨by omega, by omega, by omega, c⟩]
  · rw [if_neg c]
    by_cases c2 : 27 ≤ j ∧ (j - 27) % 7 = 0 ∧ (j - 27) / 7 < i ∧ ((((j - 27) / 7 : Nat)) : Int) < h 1
    · rw [if_pos c2, if_pos ⟨c2.1, c2.2.1, by omega, c2.2.2.2⟩]
    · rw [if_neg c2, if_neg (by omega)]
theorem s_m_areEnough {CALL : CT} (hC : RuleAll CALL) {r : Nat} {σ : AM} {K : AV → AM → Prop} {k a : Nat} {h0 : Nat → Int} (hr : M0 σ h0) (hw : WP h0) (h5 : h0 5 + k ≤ 20000) (ha : a < 128) (h : ∀ σ' : AM, Ch tS σ σ' → K (.inl (bI (enS h0 k a))) σ') : CALL (r + 9) n_m_areEnough [.inr (.inr (46, 0)), .inl (Int32.ofInt a), .inl (Int32.ofInt k)] σ K := by
  refine r_m_areEnough hC (fun J hJ => ?_)
  refine hJ _ _ _ _ ?_
  conv => whnf
  have b := hw.1.1
  refine s_m_keeps hC (to := 2887) (by omega) (by omega) ?_
  conv => whnf
  have sw := setA_WF (a := a) hw
  have l5 : setA h0 a 5 = h0 5 := setA_o h0 a (by omega)
  have fin : ∀ (σ1 : AM) (x : Int32), M0 σ1 (setA h0 a) → Ch mS (cpI σ 47 0 47 0 0 2887 97) σ1 → J 50 [.inr (.inr (46, 0)), .inl (Int32.ofInt (a : Int)), .inl (Int32.ofInt (k : Int)), .inl x] [] σ1 := by
    intro σ1 x g1 g2
    refine hJ _ _ _ _ ?_
    conv => whnf
    refine s_m_firstPause hC g1 sw (by omega) ?_
    intro σ2 f1
    have fb := fpS_bd (setA h0 a) k
    have hh : ∀ b : Bool, b = enS h0 k a → J 64 [.inr (.inr (46, 0)), .inl (Int32.ofInt (a : Int)), .inl (Int32.ofInt (k : Int)), .inl x] [.inl (bI b)] σ2 := by
      intro b hb
      refine hJ _ _ _ _ ?_
      conv => whnf
      refine s_m_restores hC (to := 2887) (by omega) (by omega) ?_
      conv => whnf
      refine ⟨bI_01 b, ?_⟩
      rw [hb]
      refine h _ ?_
      have c1 : Ch (fun t i j => mS t i j ∨ (tS t i j ∧ (t = 47 → j < 2887))) (cpI σ 47 0 47 0 0 2887 97) σ2 := (g2.mo (fun _ _ _ q => Or.inl q)).tr (f1.mo (fun _ _ _ q => Or.inr q))
      refine (kept (b := 2887) (by omega) (by omega) rfl c1 (by intro j a b; unfold mS tS; omega)).mo ?_
      intro t i j
      unfold mS tS
      omega
    conv => whnf
    refine ⟨fun c => ?_, fun c => ?_⟩ <;> (try simp (disch := omega) only [oi_le, oi_lt, oi_eq, oi_lt0, oi_le0, oi_0lt, oi_0le, oi_eq0, oi_eq1, bI_eq0, bI_ne0, bI_eq1, decide_eq_true_eq, decide_eq_false_iff_not, lc_lt, lc_gt, lc_eq, lc_ge, lc_le, ol_lt, ol_eq, ne_eq, Int.not_lt, Int.not_le, Bool.not_eq_true, Bool.not_eq_false, Decidable.not_not, not_true_eq_false, not_false_eq_true, Bool.true_eq_false, Bool.false_eq_true] at c) <;> (first | (exfalso; omega) | ((with_reducible refine hJ _ _ _ _ ?_); conv => whnf) | (conv => whnf))
    · exact hh false (decide_eq_false (fun z => c (opI_n.mpr z))).symm
    · exact hh true (decide_eq_true (opI_n.mp c)).symm
  have loop : ∀ (q i : Nat) (σ1 : AM), i + q = (h0 1).toNat → M0 σ1 (setP h0 a i) → Ch mS (cpI σ 47 0 47 0 0 2887 97) σ1 → J 9 [.inr (.inr (46, 0)), .inl (Int32.ofInt (a : Int)), .inl (Int32.ofInt (k : Int)), .inl (Int32.ofInt (i : Int))] [] σ1 := by
    intro q
    induction q with
    | zero =>
      intro i σ1 hi g1 g2
      refine hJ _ _ _ _ ?_
      conv => whnf
      refine ⟨(oi_in (by omega) (by omega)).mpr ⟨by omega, by omega⟩, ?_⟩
      conv => whnf
      rw [show (Int32.ofInt 1).toNatClampNeg = 1 from rfl, g1 1 (by omega)]
      rw [setP_lo h0 a i (by omega)]
      refine ⟨fun c => ?_, fun c => ?_⟩ <;> (try simp (disch := omega) only [oi_le, oi_lt, oi_eq, oi_lt0, oi_le0, oi_0lt, oi_0le, oi_eq0, oi_eq1, bI_eq0, bI_ne0, bI_eq1, decide_eq_true_eq, decide_eq_false_iff_not, lc_lt, lc_gt, lc_eq, lc_ge, lc_le, ol_lt, ol_eq, ne_eq, Int.not_lt, Int.not_le, Bool.not_eq_true, Bool.not_eq_false, Decidable.not_not, not_true_eq_false, not_false_eq_true, Bool.true_eq_false, Bool.false_eq_true] at c) <;> (first | (exfalso; omega) | ((fail_if_success with_reducible refine hJ _ _ _ _ ?_); conv => whnf) | skip)
      refine fin σ1 _ ?_ g2
      intro j hj
      rw [g1 j hj, setP_all h0 a (by omega)]
    | succ q ih =>
      intro i σ1 hi g1 g2
      have hti : (i : Int) < h0 1 := by omega
      refine hJ _ _ _ _ ?_
      conv => whnf
      refine ⟨(oi_in (by omega) (by omega)).mpr ⟨by omega, by omega⟩, ?_⟩
      conv => whnf
      rw [show (Int32.ofInt 1).toNatClampNeg = 1 from rfl, g1 1 (by omega)]
      rw [setP_lo h0 a i (by omega)]
      refine ⟨fun c => ?_, fun c => ?_⟩ <;> (try simp (disch := omega) only [oi_le, oi_lt, oi_eq, oi_lt0, oi_le0, oi_0lt, oi_0le, oi_eq0, oi_eq1, bI_eq0, bI_ne0, bI_eq1, decide_eq_true_eq, decide_eq_false_iff_not, lc_lt, lc_gt, lc_eq, lc_ge, lc_le, ol_lt, ol_eq, ne_eq, Int.not_lt, Int.not_le, Bool.not_eq_true, Bool.not_eq_false, Decidable.not_not, not_true_eq_false, not_false_eq_true, Bool.true_eq_false, Bool.false_eq_true] at c) <;> (first | (exfalso; omega) | ((with_reducible refine hJ _ _ _ _ ?_); conv => whnf) | (conv => whnf))
      refine s_m_monkRow hC ?_
      conv => whnf
      rw [oi_add]
      refine s_m_isIn hC (by omega) (by omega) ?_
      conv => whnf
      have nx : ∀ z : Int, z = (if a.testBit i then 1 else 0) → J 9 [.inr (.inr (46, 0)), .inl (Int32.ofInt (a : Int)), .inl (Int32.ofInt (k : Int)), .inl (Int32.ofInt ((i + 1 : Nat) : Int))] [] (wI σ1 47 0 (27 + 7 * i) (Int32.ofInt z)) := by
        intro z hz
        refine ih (i + 1) _ (by omega) (g1.w (fun j hj => ?_) ?_) (g2.tr (Ch.wI (by unfold mS; omega)))
        · rw [setP_s, if_neg (by omega)]
        · rw [setP_s, if_pos ⟨rfl, hti⟩, hz]
      refine ⟨fun c2 => ?_, fun c2 => ?_⟩ <;> (try simp (disch := omega) only [oi_le, oi_lt, oi_eq, oi_lt0, oi_le0, oi_0lt, oi_0le, oi_eq0, oi_eq1, bI_eq0, bI_ne0, bI_eq1, decide_eq_true_eq, decide_eq_false_iff_not, lc_lt, lc_gt, lc_eq, lc_ge, lc_le, ol_lt, ol_eq, ne_eq, Int.not_lt, Int.not_le, Bool.not_eq_true, Bool.not_eq_false, Decidable.not_not, not_true_eq_false, not_false_eq_true, Bool.true_eq_false, Bool.false_eq_true] at c2) <;> (first | (exfalso; omega) | ((with_reducible refine hJ _ _ _ _ ?_); conv => whnf) | (conv => whnf))
      · refine hJ _ _ _ _ ?_
        conv => whnf
        refine ⟨(oi_in (by omega) (by omega)).mpr ⟨by omega, by omega⟩, ?_⟩
        conv => whnf
        rw [oi_nat (by omega) (by omega), show (24 + 7 * (i : Int) + 3).toNat = 27 + 7 * i by omega, oi_succ]
        exact nx 0 (by rw [c2]; rfl)
      · refine hJ _ _ _ _ ?_
        conv => whnf
        refine ⟨(oi_in (by omega) (by omega)).mpr ⟨by omega, by omega⟩, ?_⟩
        conv => whnf
        rw [oi_nat (by omega) (by omega), show (24 + 7 * (i : Int) + 3).toNat = 27 + 7 * i by omega, oi_succ]
        exact nx 1 (by rw [c2]; rfl)
  refine loop (h0 1).toNat 0 _ (by omega) ?_ Ch.rf
  have := hr.cp (b := 2887) (by omega)
  intro j hj
  rw [setP_0]
  exact this j hj
