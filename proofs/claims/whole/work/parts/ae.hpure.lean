/-! what reading keeps of a house -/
theorem PI.at {L f : Nat} {S : PS} (h : PI L S) (hf : f ≤ L) : PI L (f, S.2) := ⟨hf, h.2⟩
theorem PI.lo {L : Nat} {S : PS} {i : Nat} {z : Int} {b1 b2 : Bool} (h : PI L S) (uo : upOk S.2.1 i z) (hi : i = 3 ∨ i = 4 ∨ ∃ t : Nat, (t : Int) < S.2.1 0 ∧ i = 13 + 2 * t) : PI L (S.1, up S.2.1 i z, S.2.2.1, S.2.2.2.1, b1, b2) := by
  obtain ⟨p1, p2, p3, p4, p5, p6, p7, p8, p9, pa, pb, pc, pd, pe, pf⟩ := h
  have w := p2.1.1
  have hi2 : (i = 3 ∨ i = 4 ∨ 13 ≤ i) ∧ i < 24 := by
    rcases hi with e | e | ⟨t, t1, t2⟩ <;> omega
  have e0 : up S.2.1 i z 0 = S.2.1 0 := up_ne (by omega)
  have e1 : up S.2.1 i z 1 = S.2.1 1 := up_ne (by omega)
  have ek : ∀ k, 5 ≤ k → k ≤ 10 → up S.2.1 i z k = S.2.1 k := fun k _ _ => up_ne (by omega)
  have eh : ∀ k, 24 ≤ k → up S.2.1 i z k = S.2.1 k := fun k _ => up_ne (by omega)
  refine ⟨p1, p2.upd uo, ?_, ?_, ?_, ?_, ?_, ?_, fun t h1 h2 => ?_, fun m w h1 h2 h3 h4 => ?_, fun a b ha hb => ?_, fun t ht => ?_, fun m hm => ?_, fun a b ha hb => ?_, fun a b ha hb => ?_⟩
  · exact (ek 5 (by omega) (by omega)).trans p3
  · exact (ek 6 (by omega) (by omega)).trans p4
  · exact (ek 7 (by omega) (by omega)).trans p5
  · exact (ek 8 (by omega) (by omega)).trans p6
  · exact (ek 9 (by omega) (by omega)).trans p7
  · exact (ek 10 (by omega) (by omega)).trans p8
  · have h1 : up S.2.1 i z 0 ≤ (t : Int) := h1
    rw [e0] at h1
    show up S.2.1 i z _ = 0
    rw [up_ne (by rcases hi with e | e | ⟨t', t1, t2⟩ <;> omega)]
    exact p9 t h1 h2
  · have h1 : up S.2.1 i z 1 ≤ (m : Int) := h1
    rw [e1] at h1
    show up S.2.1 i z _ = 0
    rw [eh _ (by omega)]
    exact pa m w h1 h2 h3 h4
  · have ha : (a : Int) < up S.2.1 i z 1 := ha
    have hb : (b : Int) < up S.2.1 i z 1 := hb
    rw [e1] at ha hb
    show (up S.2.1 i z _).toNat.testBit b = (up S.2.1 i z _).toNat.testBit a
    rw [eh _ (by omega), eh _ (by omega)]
    exact pb a b ha hb
  · exact pc t (e0 ▸ ht)
  · exact pd m (e1 ▸ hm)
  · exact pe a b (e1 ▸ ha) (e1 ▸ hb)
  · have ha : (a : Int) < S.2.1 1 := e1 ▸ ha
    have hb : S.2.1 1 ≤ (b : Int) := e1 ▸ hb
    show (up S.2.1 i z _).toNat.testBit b = false
    rw [eh _ (by omega)]
    exact pf a b ha hb
theorem orF_lt {x : Int} {n u : Nat} (h1 : 0 ≤ x) (h2 : x < ((2 ^ n : Nat) : Int)) (hu : u < n) : ((x.toNat ||| 2 ^ u : Nat) : Int) < ((2 ^ n : Nat) : Int) := by
  have : x.toNat ||| 2 ^ u < 2 ^ n := Nat.or_lt_two_pow (by omega) (Nat.pow_lt_pow_right (by omega) hu)
  omega
theorem PI.follow {L : Nat} {S : PS} {t u : Nat} (h : PI L S) (ht : t < (S.2.1 0).toNat) (hu : u < (S.2.1 0).toNat) : PI L (S.1, orF S.2.1 (13 + 2 * t) u, S.2.2) := by
  have b := h.wf.1
  have q := h.wf.2.1 t (by omega)
  have := orF_lt (x := S.2.1 (13 + 2 * t)) (n := 6) (u := u) q.2.2.1 (by omega) (by omega)
  exact h.lo (Or.inr (Or.inr (Or.inr (Or.inr (Or.inl ⟨t, by omega, rfl, by omega, by omega⟩))))) (Or.inr (Or.inr ⟨t, by omega, rfl⟩))
theorem PI.ent {L : Nat} {S : PS} {m t : Nat} (h : PI L S) (hm : m < (S.2.1 1).toNat) (ht : t < (S.2.1 0).toNat) (h12 : S.2.1 2 < 12) : PI L (S.1, entF S.2.1 (m : Int) (t : Int), S.2.2) := by
  have b := h.wf.1
  obtain ⟨p1, p2, p3, p4, p5, p6, p7, p8, p9, pa, pb, pc, pd, pe, pf⟩ := h
  have e : ∀ j, j ≠ 2 → j < 73 → entF S.2.1 (m : Int) (t : Int) j = S.2.1 j := fun j a c => entF_lo a c
  refine ⟨p1, entF_WP p2 h12 ⟨by omega, by omega⟩ ⟨by omega, by omega⟩, ?_, ?_, ?_, ?_, ?_, ?_, fun t h1 h2 => ?_, fun m w h1 h2 h3 h4 => ?_, fun a b ha hb => ?_, fun t ht => ?_, fun m hm => ?_, fun a b ha hb => ?_, fun a b ha hb => ?_⟩
  · exact (e 5 (by omega) (by omega)).trans p3
  · exact (e 6 (by omega) (by omega)).trans p4
  · exact (e 7 (by omega) (by omega)).trans p5
  · exact (e 8 (by omega) (by omega)).trans p6
  · exact (e 9 (by omega) (by omega)).trans p7
  · exact (e 10 (by omega) (by omega)).trans p8
  · have h1 : S.2.1 0 ≤ (t : Int) := (e 0 (by omega) (by omega)) ▸ h1
    exact (e _ (by omega) (by omega)).trans (p9 t h1 h2)
  · have h1 : S.2.1 1 ≤ (m : Int) := (e 1 (by omega) (by omega)) ▸ h1
    exact (e _ (by omega) (by omega)).trans (pa m w h1 h2 h3 h4)
  · have ha : (a : Int) < S.2.1 1 := (e 1 (by omega) (by omega)) ▸ ha
    have hb : (b : Int) < S.2.1 1 := (e 1 (by omega) (by omega)) ▸ hb
    show (entF S.2.1 _ _ _).toNat.testBit b = (entF S.2.1 _ _ _).toNat.testBit a
    rw [e _ (by omega) (by omega), e _ (by omega) (by omega)]
    exact pb a b ha hb
  · exact pc t ((e 0 (by omega) (by omega)) ▸ ht)
  · exact pd m ((e 1 (by omega) (by omega)) ▸ hm)
  · exact pe a b ((e 1 (by omega) (by omega)) ▸ ha) ((e 1 (by omega) (by omega)) ▸ hb)
  · have ha : (a : Int) < S.2.1 1 := (e 1 (by omega) (by omega)) ▸ ha
    have hb : S.2.1 1 ≤ (b : Int) := (e 1 (by omega) (by omega)) ▸ hb
    show (entF S.2.1 _ _ _).toNat.testBit b = false
    rw [e _ (by omega) (by omega)]
    exact pf a b ha hb
theorem PI.topic {L : Nat} {S : PS} {v : Int} {w : List Nat} (h : PI L S) (h6 : S.2.1 0 < 6) (v1 : 0 ≤ v) (v2 : v ≤ 20) (wo : WordOk w ∧ kwI w = none) : PI L (S.1, addT S.2.1 v, upN S.2.2.1 (S.2.1 0).toNat w, S.2.2.2) := by
  obtain ⟨p1, ⟨⟨b, g2, g3, g4⟩, w6, w7⟩, p3, p4, p5, p6, p7, p8, p9, pa, pb, pc, pd, pe, pf⟩ := h
  have e : ∀ j, j ≠ 0 → j ≠ 12 + 2 * (S.2.1 0).toNat → addT S.2.1 v j = S.2.1 j := fun j a c => addT_o a c
  have e1 := e 1 (by omega) (by omega)
  have e2 := e 2 (by omega) (by omega)
  have e3 := e 3 (by omega) (by omega)
  have e4 := e 4 (by omega) (by omega)
  have e5 := e 5 (by omega) (by omega)
  have e6 := e 6 (by omega) (by omega)
  have e7 := e 7 (by omega) (by omega)
  have e8 := e 8 (by omega) (by omega)
  have e9 := e 9 (by omega) (by omega)
  have e0 : addT S.2.1 v 0 = S.2.1 0 + 1 := addT_0
  have wp : WP (addT S.2.1 v) := by
    refine ⟨⟨?_, fun k hk => ?_, fun k hk => ?_, fun k hk => ?_⟩, by rw [e6, e5]; exact w6, by rw [e7, e5]; exact w7⟩
    · rw [e0, e1, e2, e3, e4, e5, e6, e7, e8, e9]
      omega
    · rw [e0] at hk
      by_cases ek : k = (S.2.1 0).toNat
      · have z := p9 k (by omega) (by omega)
        rw [ek, addT_v, e _ (by omega) (by omega), ← ek, z]
        omega
      · rw [e _ (by omega) (by omega), e _ (by omega) (by omega)]
        exact g2 k (by omega)
    · rw [e1] at hk
      rw [e (24 + 7 * k) (by omega) (by omega), e (25 + 7 * k) (by omega) (by omega), e (26 + 7 * k) (by omega) (by omega), e (27 + 7 * k) (by omega) (by omega), e (28 + 7 * k) (by omega) (by omega), e (29 + 7 * k) (by omega) (by omega), e (30 + 7 * k) (by omega) (by omega), e5]
      exact g3 k hk
    · rw [e2] at hk
      rw [e (73 + 2 * k) (by omega) (by omega), e (74 + 2 * k) (by omega) (by omega), e0, e1]
      have := g4 k hk
      omega
  refine ⟨p1, wp, e5.trans p3, e6.trans p4, e7.trans p5, e8.trans p6, e9.trans p7, (e 10 (by omega) (by omega)).trans p8, fun t h1 h2 => ?_, fun m w h1 h2 h3 h4 => ?_, fun a b ha hb => ?_, fun t ht => ?_, fun m hm => ?_, fun a b ha hb => ?_, fun a b ha hb => ?_⟩
  · have h1 : addT S.2.1 v 0 ≤ (t : Int) := h1
    exact (e _ (by omega) (by omega)).trans (p9 t (by omega) h2)
  · have h1 : S.2.1 1 ≤ (m : Int) := e1 ▸ h1
    exact (e _ (by omega) (by omega)).trans (pa m w h1 h2 h3 h4)
  · have ha : (a : Int) < S.2.1 1 := e1 ▸ ha
    have hb : (b : Int) < S.2.1 1 := e1 ▸ hb
    show (addT S.2.1 _ _).toNat.testBit b = (addT S.2.1 _ _).toNat.testBit a
    rw [e _ (by omega) (by omega), e _ (by omega) (by omega)]
    exact pb a b ha hb
  · have ht : (t : Int) < addT S.2.1 v 0 := ht
    show WordOk (upN S.2.2.1 (S.2.1 0).toNat w t) ∧ kwI (upN S.2.2.1 (S.2.1 0).toNat w t) = none
    by_cases et : t = (S.2.1 0).toNat
    · rw [et, upN_eq]; exact wo
    · rw [upN_ne et]; exact pc t (by omega)
  · exact pd m (e1 ▸ hm)
  · exact pe a b (e1 ▸ ha) (e1 ▸ hb)
  · have ha : (a : Int) < S.2.1 1 := e1 ▸ ha
    have hb : S.2.1 1 ≤ (b : Int) := e1 ▸ hb
    show (addT S.2.1 _ _).toNat.testBit b = false
    rw [e _ (by omega) (by omega)]
    exact pf a b ha hb
theorem PI.monk {L : Nat} {S : PS} {v rs aw : Int} {w : List Nat} (h : PI L S) (h7 : S.2.1 1 < 7) (v1 : 0 ≤ v) (v2 : v ≤ 99) (r1 : 0 ≤ rs) (r2 : rs ≤ 9) (a1 : 0 ≤ aw) (a2 : aw ≤ 1) (wo : WordOk w ∧ kwI w = none) (wn : ∀ m : Nat, (m : Int) < S.2.1 1 → S.2.2.2.1 m ≠ w) : PI L (S.1, addM S.2.1 v rs aw, S.2.2.1, upN S.2.2.2.1 (S.2.1 1).toNat w, S.2.2.2.2) := by
  obtain ⟨p1, ⟨⟨b, g2, g3, g4⟩, w6, w7⟩, p3, p4, p5, p6, p7, p8, p9, pa, pb, pc, pd, pe, pf⟩ := h
  have e : ∀ j, j ≠ 1 → ¬ (24 + 7 * (S.2.1 1).toNat ≤ j ∧ j < 28 + 7 * (S.2.1 1).toNat) → addM S.2.1 v rs aw j = S.2.1 j := fun j a c => addM_o a c
  have e0 := e 0 (by omega) (by omega)
  have e2 := e 2 (by omega) (by omega)
  have e3 := e 3 (by omega) (by omega)
  have e4 := e 4 (by omega) (by omega)
  have e5 := e 5 (by omega) (by omega)
  have e6 := e 6 (by omega) (by omega)
  have e7 := e 7 (by omega) (by omega)
  have e8 := e 8 (by omega) (by omega)
  have e9 := e 9 (by omega) (by omega)
  have e1 : addM S.2.1 v rs aw 1 = S.2.1 1 + 1 := addM_1
  have z4 := pa (S.2.1 1).toNat 4 (by omega) (by omega) (by omega) (by omega)
  have z5 := pa (S.2.1 1).toNat 5 (by omega) (by omega) (by omega) (by omega)
  have z6 := pa (S.2.1 1).toNat 6 (by omega) (by omega) (by omega) (by omega)
  obtain ⟨m1, m2, m3, m4⟩ := addM_v (h := S.2.1) (v := v) (rs := rs) (aw := aw)
  have wp : WP (addM S.2.1 v rs aw) := by
    refine ⟨⟨?_, fun k hk => ?_, fun k hk => ?_, fun k hk => ?_⟩, by rw [e6, e5]; exact w6, by rw [e7, e5]; exact w7⟩
    · rw [e0, e1, e2, e3, e4, e5, e6, e7, e8, e9]
      omega
    · rw [e0] at hk
      rw [e _ (by omega) (by omega), e _ (by omega) (by omega)]
      exact g2 k (by omega)
    · rw [e1] at hk
      by_cases ek : k = (S.2.1 1).toNat
      · rw [ek, m1, m2, m3, m4, e (28 + 7 * (S.2.1 1).toNat) (by omega) (by omega), e (29 + 7 * (S.2.1 1).toNat) (by omega) (by omega), e (30 + 7 * (S.2.1 1).toNat) (by omega) (by omega), e5, z4, z5, z6]
        omega
      · rw [e (24 + 7 * k) (by omega) (by omega), e (25 + 7 * k) (by omega) (by omega), e (26 + 7 * k) (by omega) (by omega), e (27 + 7 * k) (by omega) (by omega), e (28 + 7 * k) (by omega) (by omega), e (29 + 7 * k) (by omega) (by omega), e (30 + 7 * k) (by omega) (by omega), e5]
        exact g3 k (by omega)
    · rw [e2] at hk
      rw [e (73 + 2 * k) (by omega) (by omega), e (74 + 2 * k) (by omega) (by omega), e0, e1]
      have := g4 k hk
      omega
  refine ⟨p1, wp, e5.trans p3, e6.trans p4, e7.trans p5, e8.trans p6, e9.trans p7, (e 10 (by omega) (by omega)).trans p8, fun t h1 h2 => ?_, fun m w h1 h2 h3 h4 => ?_, fun a b ha hb => ?_, fun t ht => ?_, fun m hm => ?_, fun a b ha hb => ?_, fun a b ha hb => ?_⟩
  · have h1 : S.2.1 0 ≤ (t : Int) := e0 ▸ h1
    exact (e _ (by omega) (by omega)).trans (p9 t h1 h2)
  · have h1 : addM S.2.1 v rs aw 1 ≤ (m : Int) := h1
    exact (e _ (by omega) (by omega)).trans (pa m w (by omega) h2 h3 h4)
  · have ha : (a : Int) < addM S.2.1 v rs aw 1 := ha
    have hb : (b : Int) < addM S.2.1 v rs aw 1 := hb
    show (addM S.2.1 _ _ _ _).toNat.testBit b = (addM S.2.1 _ _ _ _).toNat.testBit a
    rw [e _ (by omega) (by omega), e _ (by omega) (by omega)]
    have z6 : S.2.1 (30 + 7 * (S.2.1 1).toNat) = 0 := z6
    by_cases ea : a = (S.2.1 1).toNat
    · by_cases eb : b = (S.2.1 1).toNat
      · rw [ea, eb]
      · rw [ea, z6, pf b _ (by omega) (by omega)]
        exact Nat.zero_testBit b
    · by_cases eb : b = (S.2.1 1).toNat
      · rw [eb, z6, pf a _ (by omega) (by omega)]
        exact (Nat.zero_testBit a).symm
      · exact pb a b (by omega) (by omega)
  · exact pc t (e0 ▸ ht)
  · have hm : (m : Int) < addM S.2.1 v rs aw 1 := hm
    show WordOk (upN S.2.2.2.1 (S.2.1 1).toNat w m) ∧ kwI (upN S.2.2.2.1 (S.2.1 1).toNat w m) = none
    by_cases et : m = (S.2.1 1).toNat
    · rw [et, upN_eq]; exact wo
    · rw [upN_ne et]; exact pd m (by omega)
  · have ha : (a : Int) < addM S.2.1 v rs aw 1 := ha
    have hb : (b : Int) < addM S.2.1 v rs aw 1 := hb
    show upN S.2.2.2.1 (S.2.1 1).toNat w a = upN S.2.2.2.1 (S.2.1 1).toNat w b → a = b
    by_cases ea : a = (S.2.1 1).toNat
    · by_cases eb : b = (S.2.1 1).toNat
      · intro _; omega
      · rw [ea, upN_eq, upN_ne eb]
        intro z
        exact absurd z.symm (wn b (by omega))
    · by_cases eb : b = (S.2.1 1).toNat
      · rw [eb, upN_eq, upN_ne ea]
        intro z
        exact absurd z (wn a (by omega))
      · rw [upN_ne ea, upN_ne eb]
        exact pe a b (by omega) (by omega)
  · have ha : (a : Int) < addM S.2.1 v rs aw 1 := ha
    have hb : addM S.2.1 v rs aw 1 ≤ (b : Int) := hb
    show (addM S.2.1 _ _ _ _).toNat.testBit b = false
    rw [e _ (by omega) (by omega)]
    have z6 : S.2.1 (30 + 7 * (S.2.1 1).toNat) = 0 := z6
    by_cases ea : a = (S.2.1 1).toNat
    · rw [ea, z6]; exact Nat.zero_testBit b
    · exact pf a b (by omega) (by omega)
theorem PI.hear {L : Nat} {S : PS} {m o : Nat} (h : PI L S) (hm : m < (S.2.1 1).toNat) (ho : o < (S.2.1 1).toNat) (hne : m ≠ o) : PI L (S.1, orF (orF S.2.1 (30 + 7 * m) o) (30 + 7 * o) m, S.2.2) := by
  have b := h.wf.1
  have q1 := h.wf.2.2.1 m (by omega)
  have q2 := h.wf.2.2.1 o (by omega)
  have l1 := orF_lt (x := S.2.1 (30 + 7 * m)) (n := 7) (u := o) (by omega) (by omega) (by omega)
  have l2 := orF_lt (x := S.2.1 (30 + 7 * o)) (n := 7) (u := m) (by omega) (by omega) (by omega)
  obtain ⟨p1, p2, p3, p4, p5, p6, p7, p8, p9, pa, pb, pc, pd, pe, pf⟩ := h
  have eo : (orF S.2.1 (30 + 7 * m) o) (30 + 7 * o) = S.2.1 (30 + 7 * o) := up_ne (by omega)
  have w1 : WP (orF S.2.1 (30 + 7 * m) o) := p2.upd (Or.inr (Or.inr (Or.inr (Or.inr (Or.inr (Or.inr (Or.inr ⟨m, by omega, rfl, by omega, by omega⟩)))))))
  have w2 : WP (orF (orF S.2.1 (30 + 7 * m) o) (30 + 7 * o) m) := by
    refine w1.upd (Or.inr (Or.inr (Or.inr (Or.inr (Or.inr (Or.inr (Or.inr ⟨o, ?_, rfl, by omega, ?_⟩)))))))
    · show (o : Int) < up S.2.1 _ _ 1
      rw [up_ne (by omega)]
      omega
    · rw [eo]; omega
  have key : ∀ a c : Nat, ((orF (orF S.2.1 (30 + 7 * m) o) (30 + 7 * o) m) (30 + 7 * a)).toNat.testBit c = ((S.2.1 (30 + 7 * a)).toNat.testBit c || decide ((a = m ∧ c = o) ∨ (a = o ∧ c = m))) := by
    intro a c
    by_cases ao : a = o
    · rw [ao]
      show (up _ _ _ _).toNat.testBit c = _
      rw [up_eq, Int.toNat_natCast, eo, Nat.testBit_or, Nat.testBit_two_pow]
      congr 1
      exact decide_eq_decide.mpr (by omega)
    · show (up _ _ _ _).toNat.testBit c = _
      rw [up_ne (by omega)]
      by_cases am : a = m
      · rw [am]
        show (up _ _ _ _).toNat.testBit c = _
        rw [up_eq, Int.toNat_natCast, Nat.testBit_or, Nat.testBit_two_pow]
        congr 1
        exact decide_eq_decide.mpr (by omega)
      · show (up _ _ _ _).toNat.testBit c = _
        rw [up_ne (by omega), decide_eq_false (by omega), Bool.or_false]
  have e : ∀ j, (∀ a : Nat, j ≠ 30 + 7 * a) → orF (orF S.2.1 (30 + 7 * m) o) (30 + 7 * o) m j = S.2.1 j := fun j z => by
    show up (up _ _ _) _ _ j = _
    rw [up_ne (z o), up_ne (z m)]
  have e1 := e 1 (by omega)
  refine ⟨p1, w2, (e 5 (by omega)).trans p3, (e 6 (by omega)).trans p4, (e 7 (by omega)).trans p5, (e 8 (by omega)).trans p6, (e 9 (by omega)).trans p7, (e 10 (by omega)).trans p8, fun t h1 h2 => ?_, fun k w h1 h2 h3 h4 => ?_, fun a b ha hb => ?_, fun t ht => ?_, fun m hm => ?_, fun a b ha hb => ?_, fun a b ha hb => ?_⟩
  · have h1 : S.2.1 0 ≤ (t : Int) := (e 0 (by omega)) ▸ h1
    exact (e _ (by omega)).trans (p9 t h1 h2)
  · have h1 : S.2.1 1 ≤ (k : Int) := e1 ▸ h1
    show up (up _ _ _) _ _ _ = 0
    rw [up_ne (by omega), up_ne (by omega)]
    exact pa k w h1 h2 h3 h4
  · have ha : (a : Int) < S.2.1 1 := e1 ▸ ha
    have hb : (b : Int) < S.2.1 1 := e1 ▸ hb
    show (orF _ _ _ _).toNat.testBit b = (orF _ _ _ _).toNat.testBit a
    rw [key a b, key b a, pb a b ha hb]
    congr 1
    exact decide_eq_decide.mpr (by omega)
  · exact pc t ((e 0 (by omega)) ▸ ht)
  · exact pd m (e1 ▸ hm)
  · exact pe a b (e1 ▸ ha) (e1 ▸ hb)
  · have ha : (a : Int) < S.2.1 1 := e1 ▸ ha
    have hb : S.2.1 1 ≤ (b : Int) := e1 ▸ hb
    show (orF _ _ _ _).toNat.testBit b = false
    rw [key a b, pf a b ha hb, decide_eq_false (by omega)]
    rfl
