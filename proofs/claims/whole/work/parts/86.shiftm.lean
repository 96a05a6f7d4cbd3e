theorem s_m_levelAt {CALL : CT} (hC : RuleAll CALL) {r : Nat} {σ : AM} {K : AV → AM → Prop} {x : Int} (h : K (.inl (Int32.ofInt (2790 + 97 * x))) σ) : CALL (r + 1) n_m_levelAt [.inl (Int32.ofInt x)] σ K := by
  refine r_m_levelAt hC (fun J hJ => ?_)
  refine hJ _ _ _ _ ?_
  conv => whnf
  rw [oi_mul, oi_add]
  exact h
theorem s_m_leastBreath {CALL : CT} (hC : RuleAll CALL) {r : Nat} {σ : AM} {K : AV → AM → Prop} {h0 : Nat → Int} (hm : M0 σ h0) (hw : WF h0) (h : K (.inl (Int32.ofInt (leB h0))) σ) : CALL (r + 3) n_m_leastBreath [.inr (.inr (46, 0))] σ K := by
  refine r_m_leastBreath hC (fun J hJ => ?_)
  refine hJ _ _ _ _ ?_
  conv => whnf
  have b := hw.1
  have loop : ∀ (c i : Nat), i + c = (h0 1).toNat → J 6 [.inr (.inr (46, 0)), .inl (Int32.ofInt (mnF 1000000 (fun m => h0 (24 + 7 * m)) i)), .inl (Int32.ofInt (i : Int))] [] σ := by
    intro c
    induction c with
    | zero =>
      intro i hi
      have e : i = (h0 1).toNat := by omega
      subst e
      refine hJ _ _ _ _ ?_
      conv => whnf
      refine ⟨(oi_in (by omega) (by omega)).mpr ⟨by omega, by omega⟩, ?_⟩
      conv => whnf
      rw [show (Int32.ofInt 1).toNatClampNeg = 1 from rfl, hm 1 (by omega)]
      refine ⟨fun c2 => ?_, fun c2 => ?_⟩ <;> (try simp (disch := omega) only [oi_le, oi_lt, oi_eq, oi_lt0, oi_le0, oi_0lt, oi_0le, oi_eq0, oi_eq1, bI_eq0, bI_ne0, bI_eq1, decide_eq_true_eq, decide_eq_false_iff_not, lc_lt, lc_gt, lc_eq, lc_ge, lc_le, ol_lt, ol_eq, ne_eq, Int.not_lt, Int.not_le, Bool.not_eq_true, Bool.not_eq_false, Decidable.not_not, not_true_eq_false, not_false_eq_true, Bool.true_eq_false, Bool.false_eq_true] at c2) <;> (first | (exfalso; omega) | ((with_reducible refine hJ _ _ _ _ ?_); conv => whnf) | (conv => whnf))
      exact h
    | succ c ih =>
      intro i hi
      have hq := hw.2.2.1 i (by omega)
      have bd := mnF_bd (f := fun m => h0 (24 + 7 * m)) (M := 99) (c := 1000000) (by omega) i (fun k hk => by have := hw.2.2.1 k (by omega); exact ⟨by show 0 ≤ h0 (24 + 7 * k); omega, by show h0 (24 + 7 * k) ≤ 99; omega⟩)
      have nx := ih (i + 1) (by omega)
      rw [mnF] at nx
      refine hJ _ _ _ _ ?_
      conv => whnf
      refine ⟨(oi_in (by omega) (by omega)).mpr ⟨by omega, by omega⟩, ?_⟩
      conv => whnf
      rw [show (Int32.ofInt 1).toNatClampNeg = 1 from rfl, hm 1 (by omega)]
      refine ⟨fun c2 => ?_, fun c2 => ?_⟩ <;> (try simp (disch := omega) only [oi_le, oi_lt, oi_eq, oi_lt0, oi_le0, oi_0lt, oi_0le, oi_eq0, oi_eq1, bI_eq0, bI_ne0, bI_eq1, decide_eq_true_eq, decide_eq_false_iff_not, lc_lt, lc_gt, lc_eq, lc_ge, lc_le, ol_lt, ol_eq, ne_eq, Int.not_lt, Int.not_le, Bool.not_eq_true, Bool.not_eq_false, Decidable.not_not, not_true_eq_false, not_false_eq_true, Bool.true_eq_false, Bool.false_eq_true] at c2) <;> (first | (exfalso; omega) | ((with_reducible refine hJ _ _ _ _ ?_); conv => whnf) | (conv => whnf))
      refine s_m_monkOf hC (w := 0) hm (by omega) (by omega) ?_
      conv => whnf
      rw [show 24 + 7 * i + 0 = 24 + 7 * i by omega]
      refine s_minI hC (by omega) (by omega) (by omega) (by omega) ?_
      conv => whnf
      rw [oi_succ]
      exact nx
  exact loop (h0 1).toNat 0 (by omega)
/-- what the reference's search holds -/
def upH (hs : Nat → Nat → Int) (i : Nat) (h : Nat → Int) : Nat → Nat → Int := fun l => if l = i then h else hs l
theorem upH_eq {hs : Nat → Nat → Int} {i : Nat} {h : Nat → Int} : upH hs i h i = h := if_pos rfl
theorem upH_ne {hs : Nat → Nat → Int} {i l : Nat} {h : Nat → Int} (e : l ≠ i) : upH hs i h l = hs l := if_neg e
def RR (σ : AM) (i n : Nat) (hs : Nat → Nat → Int) (w : Nat → Int) (a : Acc) : Prop := (∀ l, l ≤ i → MRep σ (2790 + 97 * l) (hs l)) ∧ (∀ l, l < i → σ.1 55 0 l = Int32.ofInt (w l)) ∧ σ.1 46 0 29 = Int32.ofInt a.1 ∧ (a.1 = -1 ∨ ∀ l, l < n → σ.1 56 0 l = Int32.ofInt (a.2 l))
def rsS (t q j : Nat) : Prop := q = 0 ∧ ((t = 47 ∧ (j < 97 ∨ 2790 ≤ j)) ∨ (t = 46 ∧ (j = 24 ∨ j = 25 ∨ j = 26 ∨ j = 29)) ∨ t = 55 ∨ t = 56)
theorem RR.cg {σ σ' : AM} {i n : Nat} {hs : Nat → Nat → Int} {w : Nat → Int} {a : Acc} (hr : RR σ i n hs w a) (e47 : ∀ j, 2790 ≤ j → j < 2790 + 97 * (i + 1) → σ'.1 47 0 j = σ.1 47 0 j) (e55 : ∀ l, l < i → σ'.1 55 0 l = σ.1 55 0 l) (e29 : σ'.1 46 0 29 = σ.1 46 0 29) (e56 : ∀ l, σ'.1 56 0 l = σ.1 56 0 l) : RR σ' i n hs w a := by
  refine ⟨fun l hl j hj => ?_, fun l hl => ?_, by rw [e29]; exact hr.2.2.1, ?_⟩
  · rw [e47 _ (by omega) (by omega)]
    exact hr.1 l hl j hj
  · rw [e55 l hl]
    exact hr.2.1 l hl
  · rcases hr.2.2.2 with q | q
    · exact Or.inl q
    · exact Or.inr (fun l hl => by rw [e56]; exact q l hl)
theorem s_m_shifting {CALL : CT} (hC : RuleAll CALL) {r : Nat} {σ : AM} {K : AV → AM → Prop} {n : Nat} {h0 : Nat → Int} (hm : M0 σ h0) (hw : WF h0) (h5 : h0 5 + n ≤ 20000) (n1 : 1 ≤ n) (n3 : n ≤ 3) (h : ∀ σ' : AM, Ch (fun t q j => rsS t q j ∧ (t = 47 → 97 ≤ j)) σ σ' → ((sea n h0 0 (fun _ => 0) (-1, fun _ => 0)).1 ≠ -1 → ∀ l, l < n → σ'.1 56 0 l = Int32.ofInt ((sea n h0 0 (fun _ => 0) (-1, fun _ => 0)).2 l)) → K (.inl (Int32.ofInt (sea n h0 0 (fun _ => 0) (-1, fun _ => 0)).1)) σ') : CALL (r + 5) n_m_shifting [.inr (.inr (46, 0)), .inl (Int32.ofInt n)] σ K := by
  refine r_m_shifting hC (fun J hJ => ?_)
  refine hJ _ _ _ _ ?_
  conv => whnf
  have head : ∀ (k i : Nat) (hi : Nat → Int) (σi : AM) (x3 x4 x5 : AV), i ≤ 2 → k ≤ 42 → MRep σi (2790 + 97 * i) hi → WF hi → σi.1 55 0 i = Int32.ofInt ((k : Int) - 1) → (∀ σ2 : AM, σ2 = wI (cpI σi 47 0 47 0 (2790 + 97 * i) 0 97) 55 0 i (Int32.ofInt (k : Int)) → M0 σ2 hi → (hi 1 ≤ ((k / 6 : Nat) : Int) → J 22 [.inr (.inr (46, 0)), .inl (Int32.ofInt (n : Int)), .inl (Int32.ofInt ((i : Int) - 1)), .inl (Int32.ofInt ((k / 6 : Nat) : Int)), .inl (Int32.ofInt ((k % 6 : Nat) : Int)), x5] [] σ2) ∧ (((k / 6 : Nat) : Int) < hi 1 → J 81 [.inr (.inr (46, 0)), .inl (Int32.ofInt (n : Int)), .inl (Int32.ofInt (i : Int)), .inl (Int32.ofInt ((k / 6 : Nat) : Int)), .inl (Int32.ofInt ((k % 6 : Nat) : Int)), x5] [] σ2)) → J 22 [.inr (.inr (46, 0)), .inl (Int32.ofInt (n : Int)), .inl (Int32.ofInt (i : Int)), x3, x4, x5] [] σi := by
    intro k i hi σi x3 x4 x5 i2 k42 hM hwi h55 nx
    have b := hwi.1
    have hm2 : M0 (wI (cpI σi 47 0 47 0 (2790 + 97 * i) 0 97) 55 0 i (Int32.ofInt (k : Int))) hi := by
      intro j hj
      rw [wI1, if_neg (by omega), cpI1, if_pos ⟨rfl, rfl, by omega, by omega⟩, show 2790 + 97 * i + (j - 0) = 2790 + 97 * i + j by omega]
      exact hM j hj
    obtain ⟨n1', n2'⟩ := nx _ rfl hm2
    refine hJ _ _ _ _ ?_
    conv => whnf
    refine ⟨fun c => ?_, fun c => ?_⟩ <;> (try simp (disch := omega) only [oi_le, oi_lt, oi_eq, oi_lt0, oi_le0, oi_0lt, oi_0le, oi_eq0, oi_eq1, bI_eq0, bI_ne0, bI_eq1, decide_eq_true_eq, decide_eq_false_iff_not, lc_lt, lc_gt, lc_eq, lc_ge, lc_le, ol_lt, ol_eq, ne_eq, Int.not_lt, Int.not_le, Bool.not_eq_true, Bool.not_eq_false, Decidable.not_not, not_true_eq_false, not_false_eq_true, Bool.true_eq_false, Bool.false_eq_true] at c) <;> (first | (exfalso; omega) | ((with_reducible refine hJ _ _ _ _ ?_); conv => whnf) | (conv => whnf))
    refine s_m_levelAt hC ?_
    conv => whnf
    rw [show (2790 + 97 * (i : Int)) = ((2790 + 97 * i : Nat) : Int) by omega]
    refine s_m_restores hC (by omega) (by omega) ?_
    conv => whnf
    refine ⟨(oi_in (by omega) (by omega)).mpr ⟨by omega, by omega⟩, ?_⟩
    conv => whnf
    refine ⟨(oi_in (by omega) (by omega)).mpr ⟨by omega, by omega⟩, ?_⟩
    conv => whnf
    rw [oi_nat (by omega) (by omega), Int.toNat_natCast, show (cpI σi 47 0 47 0 (2790 + 97 * i) 0 97).1 55 0 i = Int32.ofInt ((k : Int) - 1) by rw [cpI1, if_neg (by omega), h55], oi_add, show (k : Int) - 1 + 1 = (k : Int) by omega]
    refine ⟨(oi_in (by omega) (by omega)).mpr ⟨by omega, by omega⟩, ?_⟩
    conv => whnf
    rw [wI_16]
    refine ⟨by decide, ?_⟩
    conv => whnf
    refine ⟨(oi_in (by omega) (by omega)).mpr ⟨by omega, by omega⟩, ?_⟩
    conv => whnf
    rw [oi_nat (by omega) (by omega), Int.toNat_natCast, wI_16]
    refine ⟨by decide, ?_⟩
    conv => whnf
    rw [oi_div (by omega) (by omega) (by omega) (by omega), oi_mod (by omega) (by omega) (by omega) (by omega), show (k : Int) / 6 = ((k / 6 : Nat) : Int) by omega, show (k : Int) % 6 = ((k % 6 : Nat) : Int) by omega]
    refine ⟨(oi_in (by omega) (by omega)).mpr ⟨by omega, by omega⟩, ?_⟩
    conv => whnf
    rw [show (Int32.ofInt 1).toNatClampNeg = 1 from rfl, hm2 1 (by omega)]
    refine ⟨fun c2 => ?_, fun c2 => ?_⟩ <;> (try simp (disch := omega) only [oi_le, oi_lt, oi_eq, oi_lt0, oi_le0, oi_0lt, oi_0le, oi_eq0, oi_eq1, bI_eq0, bI_ne0, bI_eq1, decide_eq_true_eq, decide_eq_false_iff_not, lc_lt, lc_gt, lc_eq, lc_ge, lc_le, ol_lt, ol_eq, ne_eq, Int.not_lt, Int.not_le, Bool.not_eq_true, Bool.not_eq_false, Decidable.not_not, not_true_eq_false, not_false_eq_true, Bool.true_eq_false, Bool.false_eq_true] at c2) <;> (first | (exfalso; omega) | ((fail_if_success with_reducible refine hJ _ _ _ _ ?_); conv => whnf) | skip)
    · exact n2' c2
    · rw [oi_add]
      exact n1' (by omega)
  have main : ∀ (e c k i : Nat) (hs : Nat → Nat → Int) (w : Nat → Int) (a : Acc) (σi : AM) (x3 x4 x5 : AV), i + (e + 1) = n → k + c = 6 * (hs i 1).toNat → WF (hs i) → hs i 5 + (e + 1) ≤ 20000 → RR σi i n hs w a → σi.1 55 0 i = Int32.ofInt ((k : Int) - 1) → Ch rsS σ σi → -1 ≤ a.1 → a.1 ≤ 99 → (∀ (σ' : AM) (x3 x4 x5 : AV), RR σ' i n hs w (seaL (seaK e (hs i) i w) c k a) → Ch rsS σ σ' → J 22 [.inr (.inr (46, 0)), .inl (Int32.ofInt (n : Int)), .inl (Int32.ofInt ((i : Int) - 1)), x3, x4, x5] [] σ') → J 22 [.inr (.inr (46, 0)), .inl (Int32.ofInt (n : Int)), .inl (Int32.ofInt (i : Int)), x3, x4, x5] [] σi := by
    intro e
    induction e using Nat.strongRecOn with
    | ind e IH =>
      intro c
      induction c with
      | zero =>
        intro k i hs w a σi x3 x4 x5 hin hkc hwi h55 hR h1 hc a1 a2 ret
        have b := hwi.1
        refine head k i (hs i) σi x3 x4 x5 (by omega) (by omega) (hR.1 i (by omega)) hwi h1 (fun σ2 hσ2 hm2 => ⟨fun _ => ?_, fun z => by omega⟩)
        refine ret σ2 _ _ _ (hR.cg (fun j j1 j2 => ?_) (fun l hl => ?_) ?_ (fun l => ?_)) (hc.tr ?_)
        · rw [hσ2, wI1, if_neg (by omega), cpI1, if_neg (by omega)]
        · rw [hσ2, wI1, if_neg (by omega), cpI1, if_neg (by omega)]
        · rw [hσ2, wI1, if_neg (by omega), cpI1, if_neg (by omega)]
        · rw [hσ2, wI1, if_neg (by omega), cpI1, if_neg (by omega)]
        · rw [hσ2]
          refine ⟨fun t q j z => ?_, rfl⟩
          unfold rsS at z
          rw [wI1, if_neg (by omega), cpI1, if_neg (by omega)]
      | succ c ih =>
        intro k i hs w a σi x3 x4 x5 hin hkc hwi h55 hR h1 hc a1 a2 ret
        have b := hwi.1
        refine head k i (hs i) σi x3 x4 x5 (by omega) (by omega) (hR.1 i (by omega)) hwi h1 (fun σ2 hσ2 hm2 => ⟨fun z => by omega, fun hk => ?_⟩)
        rw [seaL] at ret
        have hR2 : RR σ2 i n hs w a := by
          refine hR.cg (fun j j1 j2 => ?_) (fun l hl => ?_) ?_ (fun l => ?_)
          all_goals rw [hσ2, wI1, if_neg (by omega), cpI1, if_neg (by omega)]
        have hc2 : Ch rsS σ σ2 := by
          refine hc.tr ?_
          rw [hσ2]
          refine ⟨fun t q j z => ?_, rfl⟩
          unfold rsS at z
          rw [wI1, if_neg (by omega), cpI1, if_neg (by omega)]
        have e55 : σ2.1 55 0 i = Int32.ofInt (((k + 1 : Nat) : Int) - 1) := by
          rw [hσ2, wI_16]
          congr 1
          omega
        have bad : okK (hs i) k = false → J 22 [.inr (.inr (46, 0)), .inl (Int32.ofInt (n : Int)), .inl (Int32.ofInt (i : Int)), .inl (Int32.ofInt ((k / 6 : Nat) : Int)), .inl (Int32.ofInt ((k % 6 : Nat) : Int)), x5] [] σ2 := by
          intro hno
          have eK : seaK e (hs i) i w k a = a := by unfold seaK; rw [if_neg (by rw [hno]; decide)]
          rw [eK] at ret
          exact ih (k + 1) i hs w a σ2 _ _ _ hin (by omega) hwi h55 hR2 e55 hc2 a1 a2 ret
        refine hJ _ _ _ _ ?_
        conv => whnf
        rw [oi_l (by omega) (by omega)]
        refine s_m_isTopic hC hm2 hwi (by omega) (by omega) ?_
        conv => whnf
        refine ⟨fun c3 => ?_, fun c3 => ?_⟩ <;> (try simp (disch := omega) only [oi_le, oi_lt, oi_eq, oi_lt0, oi_le0, oi_0lt, oi_0le, oi_eq0, oi_eq1, bI_eq0, bI_ne0, bI_eq1, decide_eq_true_eq, decide_eq_false_iff_not, lc_lt, lc_gt, lc_eq, lc_ge, lc_le, ol_lt, ol_eq, ne_eq, Int.not_lt, Int.not_le, Bool.not_eq_true, Bool.not_eq_false, Decidable.not_not, not_true_eq_false, not_false_eq_true, Bool.true_eq_false, Bool.false_eq_true] at c3) <;> (first | (exfalso; omega) | ((fail_if_success with_reducible refine hJ _ _ _ _ ?_); conv => whnf) | skip)
        · exact bad (by unfold okK; rw [decide_eq_false (by omega)]; rfl)
        · refine s_m_canSay hC hm2 hwi hk c3.2 ?_
          conv => whnf
          refine ⟨fun c4 => ?_, fun c4 => ?_⟩ <;> (try simp (disch := omega) only [oi_le, oi_lt, oi_eq, oi_lt0, oi_le0, oi_0lt, oi_0le, oi_eq0, oi_eq1, bI_eq0, bI_ne0, bI_eq1, decide_eq_true_eq, decide_eq_false_iff_not, lc_lt, lc_gt, lc_eq, lc_ge, lc_le, ol_lt, ol_eq, ne_eq, Int.not_lt, Int.not_le, Bool.not_eq_true, Bool.not_eq_false, Decidable.not_not, not_true_eq_false, not_false_eq_true, Bool.true_eq_false, Bool.false_eq_true] at c4) <;> (first | (exfalso; omega) | ((fail_if_success with_reducible refine hJ _ _ _ _ ?_); conv => whnf) | skip)
          · have ok : okK (hs i) k = true := by unfold okK; rw [decide_eq_true c3.2, c4]; rfl
            have sp := okK_sp ok (by omega)
            have eK : seaK e (hs i) i w k a = sea e (goF (hs i) (some (k / 6, k % 6))) (i + 1) (up w i (k : Int)) a := by unfold seaK; rw [if_pos ok]
            rw [eK] at ret
            have hwg := goF_WF hwi sp (by omega)
            refine hJ _ _ _ _ ?_
            conv => whnf
            refine s_m_saysBy hC (sp := some (k / 6, k % 6)) hm2 hwi sp (by omega) (fun σ3 g1 g2 g3 => ?_)
            conv => whnf
            have c23 := g2.ch
            have hR3 : RR σ3 i n hs w a := hR2.cg (fun j j1 j2 => c23.1 _ _ _ (by unfold mS; omega)) (fun l hl => c23.1 _ _ _ (by unfold mS; omega)) (g3 29) (fun l => c23.1 _ _ _ (by unfold mS; omega))
            have hc3 : Ch rsS σ σ3 := hc2.tr (c23.mo (fun t q j z => by unfold mS at z; unfold rsS; omega))
            have e553 : σ3.1 55 0 i = Int32.ofInt (k : Int) := by rw [c23.1 _ _ _ (by unfold mS; omega), hσ2, wI_16]
            rw [oi_succ]
            refine ⟨fun c5 => ?_, fun c5 => ?_⟩ <;> (try simp (disch := omega) only [oi_le, oi_lt, oi_eq, oi_lt0, oi_le0, oi_0lt, oi_0le, oi_eq0, oi_eq1, bI_eq0, bI_ne0, bI_eq1, decide_eq_true_eq, decide_eq_false_iff_not, lc_lt, lc_gt, lc_eq, lc_ge, lc_le, ol_lt, ol_eq, ne_eq, Int.not_lt, Int.not_le, Bool.not_eq_true, Bool.not_eq_false, Decidable.not_not, not_true_eq_false, not_false_eq_true, Bool.true_eq_false, Bool.false_eq_true] at c5) <;> (first | (exfalso; omega) | ((with_reducible refine hJ _ _ _ _ ?_); conv => whnf) | (conv => whnf))
            · -- a leaf
              have e0 : e = 0 := by omega
              subst e0
              have lb := leB_bd hwg
              have lb2 := lb.2.2 (by rw [goF_1]; omega)
              have back : ∀ (σ4 : AM) (x5 : AV), RR σ4 i n hs w (sea 0 (goF (hs i) (some (k / 6, k % 6))) (i + 1) (up w i (k : Int)) a) → σ4.1 55 0 i = Int32.ofInt (k : Int) → Ch rsS σ σ4 → J 187 [.inr (.inr (46, 0)), .inl (Int32.ofInt (n : Int)), .inl (Int32.ofInt (i : Int)), .inl (Int32.ofInt ((k / 6 : Nat) : Int)), .inl (Int32.ofInt ((k % 6 : Nat) : Int)), x5] [] σ4 := by
                intro σ4 x5 r1 r2 r3
                have bb := sea_bd 0 (i := i + 1) (w := up w i (k : Int)) (a := a) hwg (by rw [goF_5']; omega) (fun _ => by rw [goF_1]; omega) a1 a2
                refine hJ _ _ _ _ ?_
                conv => whnf
                exact ih (k + 1) i hs w _ σ4 _ _ _ hin (by omega) hwi h55 r1 (by rw [r2]; congr 1; omega) r3 bb.1 bb.2.1 ret
              refine s_m_leastBreath hC g1 hwg ?_
              conv => whnf
              rw [hR3.2.2.1]
              refine ⟨fun c6 => ?_, fun c6 => ?_⟩ <;> (try simp (disch := omega) only [oi_le, oi_lt, oi_eq, oi_lt0, oi_le0, oi_0lt, oi_0le, oi_eq0, oi_eq1, bI_eq0, bI_ne0, bI_eq1, decide_eq_true_eq, decide_eq_false_iff_not, lc_lt, lc_gt, lc_eq, lc_ge, lc_le, ol_lt, ol_eq, ne_eq, Int.not_lt, Int.not_le, Bool.not_eq_true, Bool.not_eq_false, Decidable.not_not, not_true_eq_false, not_false_eq_true, Bool.true_eq_false, Bool.false_eq_true] at c6) <;> (first | (exfalso; omega) | ((fail_if_success with_reducible refine hJ _ _ _ _ ?_); conv => whnf) | skip)
              · refine back σ3 _ ?_ e553 hc3
                rw [sea, if_neg (by omega)]
                exact hR3
              · refine s_m_leastBreath hC g1 hwg ?_
                conv => whnf
                rw [sea, if_pos (by omega)] at back
                have loop : ∀ (d q : Nat) (σ5 : AM), q + d = n → Ch (fun t p j => p = 0 ∧ (t = 56 ∨ (t = 46 ∧ j = 29))) σ3 σ5 → σ5.1 46 0 29 = Int32.ofInt (leB (goF (hs i) (some (k / 6, k % 6)))) → (∀ l, l < q → σ5.1 56 0 l = Int32.ofInt (up w i (k : Int) l)) → J 161 [.inr (.inr (46, 0)), .inl (Int32.ofInt (n : Int)), .inl (Int32.ofInt (i : Int)), .inl (Int32.ofInt ((k / 6 : Nat) : Int)), .inl (Int32.ofInt ((k % 6 : Nat) : Int)), .inl (Int32.ofInt (q : Int))] [] σ5 := by
                  intro d
                  induction d with
                  | zero =>
                    intro q σ5 hq f1 f2 f3
                    refine hJ _ _ _ _ ?_
                    conv => whnf
                    refine ⟨fun c7 => ?_, fun c7 => ?_⟩ <;> (try simp (disch := omega) only [oi_le, oi_lt, oi_eq, oi_lt0, oi_le0, oi_0lt, oi_0le, oi_eq0, oi_eq1, bI_eq0, bI_ne0, bI_eq1, decide_eq_true_eq, decide_eq_false_iff_not, lc_lt, lc_gt, lc_eq, lc_ge, lc_le, ol_lt, ol_eq, ne_eq, Int.not_lt, Int.not_le, Bool.not_eq_true, Bool.not_eq_false, Decidable.not_not, not_true_eq_false, not_false_eq_true, Bool.true_eq_false, Bool.false_eq_true] at c7) <;> (first | (exfalso; omega) | ((fail_if_success with_reducible refine hJ _ _ _ _ ?_); conv => whnf) | skip)
                    refine back σ5 _ ⟨fun l hl j hj => ?_, fun l hl => ?_, f2, Or.inr (fun l hl => f3 l (by omega))⟩ (by rw [f1.1 _ _ _ (by omega), e553]) (hc3.tr (f1.mo (fun t p j z => by unfold rsS; omega)))
                    · rw [f1.1 _ _ _ (by omega)]
                      exact hR3.1 l hl j hj
                    · rw [f1.1 _ _ _ (by omega)]
                      exact hR3.2.1 l hl
                  | succ d ihd =>
                    intro q σ5 hq f1 f2 f3
                    have rd : σ5.1 55 0 q = Int32.ofInt (up w i (k : Int) q) := by
                      rw [f1.1 _ _ _ (by omega)]
                      by_cases eq : q = i
                      · rw [eq, up_eq, e553]
                      · rw [up_ne eq, hR3.2.1 q (by omega)]
                    refine hJ _ _ _ _ ?_
                    conv => whnf
                    refine ⟨fun c7 => ?_, fun c7 => ?_⟩ <;> (try simp (disch := omega) only [oi_le, oi_lt, oi_eq, oi_lt0, oi_le0, oi_0lt, oi_0le, oi_eq0, oi_eq1, bI_eq0, bI_ne0, bI_eq1, decide_eq_true_eq, decide_eq_false_iff_not, lc_lt, lc_gt, lc_eq, lc_ge, lc_le, ol_lt, ol_eq, ne_eq, Int.not_lt, Int.not_le, Bool.not_eq_true, Bool.not_eq_false, Decidable.not_not, not_true_eq_false, not_false_eq_true, Bool.true_eq_false, Bool.false_eq_true] at c7) <;> (first | (exfalso; omega) | ((fail_if_success with_reducible refine hJ _ _ _ _ ?_); conv => whnf) | skip)
                    refine ⟨(oi_in (by omega) (by omega)).mpr ⟨by omega, by omega⟩, ?_⟩
                    conv => whnf
                    refine ⟨(oi_in (by omega) (by omega)).mpr ⟨by omega, by omega⟩, ?_⟩
                    conv => whnf
                    rw [oi_nat (by omega) (by omega), Int.toNat_natCast, rd, oi_succ]
                    refine ihd (q + 1) _ (by omega) (f1.tr (Ch.wI ⟨rfl, Or.inl rfl⟩)) (by rw [wI1, if_neg (by omega), f2]) (fun l hl => ?_)
                    rw [wI1]
                    by_cases el : l = q
                    · rw [if_pos ⟨rfl, rfl, el⟩, el]
                    · rw [if_neg (by omega)]
                      exact f3 l (by omega)
                exact loop n 0 _ (by omega) (Ch.wI ⟨rfl, Or.inr ⟨rfl, rfl⟩⟩) wI_16 (fun l hl => by omega)
            · -- one level deeper
              obtain ⟨e, rfl⟩ : ∃ q, e = q + 1 := ⟨e - 1, by omega⟩
              rw [oi_succ]
              refine ⟨(oi_in (by omega) (by omega)).mpr ⟨by omega, by omega⟩, ?_⟩
              conv => whnf
              refine s_m_levelAt hC ?_
              conv => whnf
              rw [oi_nat (by omega) (by omega), Int.toNat_natCast, show (2790 + 97 * ((i + 1 : Nat) : Int)) = ((2790 + 97 * (i + 1) : Nat) : Int) by omega]
              refine s_m_keeps hC (by omega) (by omega) ?_
              conv => whnf
              refine hJ _ _ _ _ ?_
              conv => whnf
              have hs1 : upH hs (i + 1) (goF (hs i) (some (k / 6, k % 6))) (i + 1) = goF (hs i) (some (k / 6, k % 6)) := upH_eq
              have bnd : 0 ≤ hs i 1 := hwi.1.2.2.1
              refine IH e (by omega) (6 * (goF (hs i) (some (k / 6, k % 6)) 1).toNat) 0 (i + 1) (upH hs (i + 1) (goF (hs i) (some (k / 6, k % 6)))) (up w i (k : Int)) a _ _ _ _ (by omega) (by rw [hs1]; omega) (by rw [hs1]; exact hwg) (by rw [hs1, goF_5']; omega) ⟨fun l hl j hj => ?_, fun l hl => ?_, ?_, ?_⟩ ?_ ?_ a1 a2 (fun σ' y3 y4 y5 r1 r2 => ?_)
              · by_cases el : l = i + 1
                · subst el
                  rw [cpI1, if_pos ⟨rfl, rfl, by omega, by omega⟩, wI1, if_neg (by omega), show 0 + (2790 + 97 * (i + 1) + j - (2790 + 97 * (i + 1))) = j by omega, hs1]
                  exact g1 j hj
                · rw [cpI1, if_neg (by omega), wI1, if_neg (by omega)]
                  rw [upH_ne el]
                  exact hR3.1 l (by omega) j hj
              · rw [cpI1, if_neg (by omega), wI1, if_neg (by omega)]
                by_cases el : l = i
                · rw [el, up_eq, e553]
                · rw [up_ne el]
                  exact hR3.2.1 l (by omega)
              · rw [cpI1, if_neg (by omega), wI1, if_neg (by omega)]
                exact hR3.2.2.1
              · rcases hR3.2.2.2 with q | q
                · exact Or.inl q
                · exact Or.inr (fun l hl => by rw [cpI1, if_neg (by omega), wI1, if_neg (by omega)]; exact q l hl)
              · rw [cpI1, if_neg (by omega), wI_16]
                rfl
              · refine hc3.tr ⟨fun t q j z => ?_, rfl⟩
                unfold rsS at z
                rw [cpI1, if_neg (by omega), wI1, if_neg (by omega)]
              · rw [hs1] at r1
                rw [sea_s] at ret
                have bb := sea_bd (e + 1) (i := i + 1) (w := up w i (k : Int)) (a := a) hwg (by rw [goF_5']; omega) (fun z => by omega) a1 a2
                rw [sea_s] at bb
                rw [show ((i + 1 : Nat) : Int) - 1 = (i : Int) by omega]
                refine ih (k + 1) i hs w _ σ' _ _ _ hin (by omega) hwi h55 ⟨fun l hl j hj => ?_, fun l hl => ?_, r1.2.2.1, r1.2.2.2⟩ ?_ r2 bb.1 bb.2.1 ret
                · have := r1.1 l (by omega) j hj
                  rw [upH_ne (by omega)] at this
                  exact this
                · rw [r1.2.1 l (by omega), up_ne (by omega)]
                · rw [r1.2.1 i (by omega), up_eq]
                  congr 1
                  omega
          · exact bad (by unfold okK; rw [c4, Bool.and_false])
  refine ⟨(oi_in (by omega) (by omega)).mpr ⟨by omega, by omega⟩, ?_⟩
  conv => whnf
  refine s_m_levelAt hC ?_
  conv => whnf
  rw [show (Int32.ofInt 0).toNatClampNeg = 0 from rfl, show Int32.ofInt (2790 + 97 * 0) = Int32.ofInt ((2790 : Nat) : Int) from rfl]
  refine s_m_keeps hC (by omega) (by omega) ?_
  conv => whnf
  have b := hw.1
  obtain ⟨m, rfl⟩ : ∃ q, n = q + 1 := ⟨n - 1, by omega⟩
  refine main m (6 * (h0 1).toNat) 0 0 (fun _ => h0) (fun _ => 0) (-1, fun _ => 0) _ _ _ _ (by omega) (by omega) hw (by omega) ⟨fun l hl j hj => ?_, fun l hl => by omega, ?_, Or.inl rfl⟩ ?_ ?_ (by decide) (by decide) (fun σ' x3 x4 x5 r1 r2 => ?_)
  · obtain rfl : l = 0 := by omega
    rw [cpI1, if_pos ⟨rfl, rfl, by omega, by omega⟩, wI1, if_neg (by omega), wI1, if_neg (by omega), show 0 + (2790 + 97 * 0 + j - 2790) = j by omega]
    exact hm j hj
  · rw [cpI1, if_neg (by omega), wI1, if_neg (by omega), wI_16]
  · rw [cpI1, if_neg (by omega), wI_16]
    rfl
  · refine ⟨fun t q j z => ?_, rfl⟩
    unfold rsS at z
    rw [cpI1, if_neg (by omega), wI1, if_neg (by omega), wI1, if_neg (by omega)]
  · rw [← sea_s] at r1
    refine hJ _ _ _ _ ?_
    conv => whnf
    refine ⟨fun c => ?_, fun c => ?_⟩ <;> (try simp (disch := omega) only [oi_le, oi_lt, oi_eq, oi_lt0, oi_le0, oi_0lt, oi_0le, oi_eq0, oi_eq1, bI_eq0, bI_ne0, bI_eq1, decide_eq_true_eq, decide_eq_false_iff_not, lc_lt, lc_gt, lc_eq, lc_ge, lc_le, ol_lt, ol_eq, ne_eq, Int.not_lt, Int.not_le, Bool.not_eq_true, Bool.not_eq_false, Decidable.not_not, not_true_eq_false, not_false_eq_true, Bool.true_eq_false, Bool.false_eq_true] at c) <;> (first | (exfalso; omega) | ((with_reducible refine hJ _ _ _ _ ?_); conv => whnf) | (conv => whnf))
    refine s_m_levelAt hC ?_
    conv => whnf
    rw [show Int32.ofInt (2790 + 97 * 0) = Int32.ofInt ((2790 : Nat) : Int) from rfl]
    refine s_m_restores hC (by omega) (by omega) ?_
    conv => whnf
    rw [cpI1, if_neg (by omega), r1.2.2.1]
    refine h _ ⟨fun t q j z => ?_, ?_⟩ (fun hne l hl => ?_)
    · by_cases hj : t = 47 ∧ q = 0 ∧ j < 97
      · rw [cpI1, if_pos (by omega), hj.1, hj.2.1]
        have := r1.1 0 (by omega) j hj.2.2
        rw [show 2790 + 97 * 0 + j = 2790 + (j - 0) by omega] at this
        rw [this, hm j hj.2.2]
      · rw [cpI1, if_neg (by omega)]
        refine r2.1 t q j (fun y => z ⟨y, fun e47 => ?_⟩)
        unfold rsS at y
        omega
    · show σ'.2 = _
      rw [r2.2]
    · rw [cpI1, if_neg (by omega)]
      rcases r1.2.2.2 with q | q
      · exact absurd q hne
      · exact q l hl
