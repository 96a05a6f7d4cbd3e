/-- pauses and helps are counted -/
def hP (h : Nat → Int) (j : Nat) : Int := if j = 6 then (if speechS h = none then h 6 + 1 else h 6) else if j = 7 then (if rostS h = none ∧ speechS h ≠ none then h 7 + 1 else h 7) else h j
/-- a minute goes by -/
def minF (h : Nat → Int) : Nat → Int := goF (hP h) (speechS h)
def minN : Nat → (Nat → Int) → Nat → Int
  | 0, h => h
  | n + 1, h => minN n (minF h)
theorem hP_ne (h : Nat → Int) {j : Nat} (h6 : j ≠ 6) (h7 : j ≠ 7) : hP h j = h j := by unfold hP; rw [if_neg h6, if_neg h7]
theorem hP_6 (h : Nat → Int) : hP h 6 = if speechS h = none then h 6 + 1 else h 6 := rfl
theorem hP_7 (h : Nat → Int) : hP h 7 = if rostS h = none ∧ speechS h ≠ none then h 7 + 1 else h 7 := rfl
theorem hP_aw (h : Nat → Int) : awS (hP h) = awS h := by
  unfold awS
  congr 1
  funext a m
  rw [hP_ne h (by omega : 1 ≠ 6) (by omega), hP_ne h (by omega : 27 + 7 * m ≠ 6) (by omega)]
theorem hP_WF {h : Nat → Int} (hw : WP h) : WF (hP h) := by
  obtain ⟨⟨b, g2, g3, g4⟩, w6, w7⟩ := hw
  have k6 : h 6 ≤ hP h 6 ∧ hP h 6 ≤ h 6 + 1 := by rw [hP_6]; split <;> omega
  have k7 : h 7 ≤ hP h 7 ∧ hP h 7 ≤ h 7 + 1 := by rw [hP_7]; split <;> omega
  have e : ∀ {j}, j ≠ 6 → j ≠ 7 → hP h j = h j := fun a1 a2 => hP_ne h a1 a2
  refine ⟨?_, fun t ht => ?_, fun m hm => ?_, fun e' he => ?_⟩
  · rw [e (by omega : 0 ≠ 6) (by omega), e (by omega : 1 ≠ 6) (by omega), e (by omega : 2 ≠ 6) (by omega), e (by omega : 3 ≠ 6) (by omega), e (by omega : 4 ≠ 6) (by omega), e (by omega : 5 ≠ 6) (by omega), e (by omega : 8 ≠ 6) (by omega), e (by omega : 9 ≠ 6) (by omega)]
    omega
  · rw [e (by omega : 0 ≠ 6) (by omega)] at ht
    rw [e (by omega : 12 + 2 * t ≠ 6) (by omega), e (by omega : 13 + 2 * t ≠ 6) (by omega)]
    exact g2 t ht
  · rw [e (by omega : 1 ≠ 6) (by omega)] at hm
    rw [e (by omega : 24 + 7 * m ≠ 6) (by omega), e (by omega : 25 + 7 * m ≠ 6) (by omega), e (by omega : 26 + 7 * m ≠ 6) (by omega), e (by omega : 27 + 7 * m ≠ 6) (by omega), e (by omega : 28 + 7 * m ≠ 6) (by omega), e (by omega : 29 + 7 * m ≠ 6) (by omega), e (by omega : 30 + 7 * m ≠ 6) (by omega), e (by omega : 5 ≠ 6) (by omega)]
    exact g3 m hm
  · rw [e (by omega : 2 ≠ 6) (by omega)] at he
    rw [e (by omega : 73 + 2 * e' ≠ 6) (by omega), e (by omega : 74 + 2 * e' ≠ 6) (by omega), e (by omega : 0 ≠ 6) (by omega), e (by omega : 1 ≠ 6) (by omega)]
    exact g4 e' he
theorem hP_sp {h : Nat → Int} {sp : Sp} (ho : spOk h sp) : spOk (hP h) sp := by
  cases sp with
  | none => trivial
  | some q =>
    obtain ⟨m, t⟩ := q
    obtain ⟨h1, h2, h3⟩ := ho
    exact ⟨by rw [hP_ne h (by omega) (by omega)]; exact h1, by rw [hP_ne h (by omega) (by omega)]; exact h2, by rw [hP_ne h (by omega : 12 + 2 * t ≠ 6) (by omega), hP_ne h (by omega : 24 + 7 * m ≠ 6) (by omega)]; exact h3⟩
theorem minF_5 (h : Nat → Int) : minF h 5 = h 5 + 1 := by
  unfold minF goF
  rw [if_pos rfl, hP_ne h (by omega) (by omega)]
theorem minF_lo (h : Nat → Int) {j : Nat} (hj : j < 5 ∨ (9 < j ∧ j < 24)) : minF h j = h j := by
  unfold minF
  rw [goF_lo _ _ (by omega) (by omega) (by omega) (by omega), hP_ne h (by omega) (by omega)]
theorem minF_WF {h : Nat → Int} (hw : WP h) (h5 : h 5 < 20000) : WP (minF h) := by
  have g := goF_WF (hP_WF hw) (hP_sp (speechS_ok hw.1)) (by rw [hP_ne h (by omega) (by omega)]; exact h5)
  have e6 : minF h 6 = hP h 6 := by unfold minF; rw [goF_lo _ _ (by omega) (by omega) (by omega) (by omega)]
  have e7 : minF h 7 = hP h 7 := by unfold minF; rw [goF_lo _ _ (by omega) (by omega) (by omega) (by omega)]
  have k6 : minF h 6 ≤ h 6 + 1 := by rw [e6, hP_6]; split <;> omega
  have k7 : minF h 7 ≤ h 7 + 1 := by rw [e7, hP_7]; split <;> omega
  have k5 := minF_5 h
  have w := hw.2
  exact ⟨g, by omega, by omega⟩
theorem minN_WF : ∀ (n : Nat) {h : Nat → Int}, WP h → h 5 + n ≤ 20000 → WP (minN n h) ∧ minN n h 5 = h 5 + n
  | 0, h, hw, _ => ⟨hw, by simp [minN]⟩
  | n + 1, h, hw, h5 => by
    have k5 := minF_5 h
    have ih := minN_WF n (minF_WF hw (by omega)) (by omega)
    exact ⟨ih.1, by rw [minN, ih.2]; omega⟩
theorem minN_succ : ∀ (n : Nat) (h : Nat → Int), minN (n + 1) h = minF (minN n h)
  | 0, h => rfl
  | n + 1, h => by rw [minN, minN_succ n (minF h)]; rfl
theorem HRep.w6 {σ : AM} {n : Nat} {h : Nat → Int} {z : Int} (hr : HRep σ n h) {g : Nat → Int} (hg : ∀ j, j ≠ 6 → g j = h j) (h6 : g 6 = z) : HRep (wI σ 22 n 8 (Int32.ofInt z)) n g := by
  obtain ⟨h0, h1, h2, h3, h4, h5, q6, h7, h8, h9, ha, ht, hm, he⟩ := hr
  have ew : ∀ t j, ¬ (t = 22 ∧ j = 8) → (wI σ 22 n 8 (Int32.ofInt z)).1 t n j = σ.1 t n j := fun t j hn => by rw [wI1, if_neg (fun q => hn ⟨q.1, q.2.2⟩)]
  have ea : awS g = awS h := by
    unfold awS
    congr 1
    funext a m
    rw [hg 1 (by omega), hg (27 + 7 * m) (by omega)]
  refine ⟨?_, ?_, ?_, ?_, ?_, ?_, ?_, ?_, ?_, ?_, ?_, fun t q => ?_, fun m q => ?_, fun k q => ?_⟩
  · rw [ew _ _ (by omega), hg 0 (by omega), h0]
  · rw [ew _ _ (by omega), hg 1 (by omega), h1]
  · rw [ew _ _ (by omega), hg 2 (by omega), h2]
  · rw [ew _ _ (by omega), hg 3 (by omega), h3]
  · rw [ew _ _ (by omega), hg 4 (by omega), h4]
  · rw [ew _ _ (by omega), hg 5 (by omega), h5]
  · rw [wI1, if_pos ⟨rfl, rfl, rfl⟩, h6]
  · rw [ew _ _ (by omega), hg 7 (by omega), h7]
  · rw [ew _ _ (by omega), hg 8 (by omega), h8]
  · rw [ew _ _ (by omega), hg 9 (by omega), h9]
  · rw [ew _ _ (by omega), ea, ha]
  · rw [hg 0 (by omega)] at q
    rw [ew _ _ (by omega), ew _ _ (by omega), hg (12 + 2 * t) (by omega), hg (13 + 2 * t) (by omega)]
    exact ht t q
  · rw [hg 1 (by omega)] at q
    rw [ew _ _ (by omega), ew _ _ (by omega), ew _ _ (by omega), ew _ _ (by omega), ew _ _ (by omega), ew _ _ (by omega), hg (24 + 7 * m) (by omega), hg (25 + 7 * m) (by omega), hg (26 + 7 * m) (by omega), hg (28 + 7 * m) (by omega), hg (29 + 7 * m) (by omega), hg (30 + 7 * m) (by omega)]
    exact hm m q
  · rw [hg 2 (by omega)] at q
    rw [ew _ _ (by omega), ew _ _ (by omega), hg (73 + 2 * k) (by omega), hg (74 + 2 * k) (by omega)]
    exact he k q
theorem HRep.w7 {σ : AM} {n : Nat} {h : Nat → Int} {z : Int} (hr : HRep σ n h) {g : Nat → Int} (hg : ∀ j, j ≠ 7 → g j = h j) (h6 : g 7 = z) : HRep (wI σ 22 n 9 (Int32.ofInt z)) n g := by
  obtain ⟨h0, h1, h2, h3, h4, h5, q6, h7, h8, h9, ha, ht, hm, he⟩ := hr
  have ew : ∀ t j, ¬ (t = 22 ∧ j = 9) → (wI σ 22 n 9 (Int32.ofInt z)).1 t n j = σ.1 t n j := fun t j hn => by rw [wI1, if_neg (fun q => hn ⟨q.1, q.2.2⟩)]
  have ea : awS g = awS h := by
    unfold awS
    congr 1
    funext a m
    rw [hg 1 (by omega), hg (27 + 7 * m) (by omega)]
  refine ⟨?_, ?_, ?_, ?_, ?_, ?_, ?_, ?_, ?_, ?_, ?_, fun t q => ?_, fun m q => ?_, fun k q => ?_⟩
  · rw [ew _ _ (by omega), hg 0 (by omega), h0]
  · rw [ew _ _ (by omega), hg 1 (by omega), h1]
  · rw [ew _ _ (by omega), hg 2 (by omega), h2]
  · rw [ew _ _ (by omega), hg 3 (by omega), h3]
  · rw [ew _ _ (by omega), hg 4 (by omega), h4]
  · rw [ew _ _ (by omega), hg 5 (by omega), h5]
  · rw [ew _ _ (by omega), hg 6 (by omega), q6]
  · rw [wI1, if_pos ⟨rfl, rfl, rfl⟩, h6]
  · rw [ew _ _ (by omega), hg 8 (by omega), h8]
  · rw [ew _ _ (by omega), hg 9 (by omega), h9]
  · rw [ew _ _ (by omega), ea, ha]
  · rw [hg 0 (by omega)] at q
    rw [ew _ _ (by omega), ew _ _ (by omega), hg (12 + 2 * t) (by omega), hg (13 + 2 * t) (by omega)]
    exact ht t q
  · rw [hg 1 (by omega)] at q
    rw [ew _ _ (by omega), ew _ _ (by omega), ew _ _ (by omega), ew _ _ (by omega), ew _ _ (by omega), ew _ _ (by omega), hg (24 + 7 * m) (by omega), hg (25 + 7 * m) (by omega), hg (26 + 7 * m) (by omega), hg (28 + 7 * m) (by omega), hg (29 + 7 * m) (by omega), hg (30 + 7 * m) (by omega)]
    exact hm m q
  · rw [hg 2 (by omega)] at q
    rw [ew _ _ (by omega), ew _ _ (by omega), hg (73 + 2 * k) (by omega), hg (74 + 2 * k) (by omega)]
    exact he k q
theorem HRep.eqv {σ : AM} {n : Nat} {h g : Nat → Int} (hr : HRep σ n h) (e : g = h) : HRep σ n g := e ▸ hr
theorem s_passOne {CALL : CT} (hC : RuleAll CALL) {r : Nat} {σ : AM} {K : AV → AM → Prop} {n : Nat} {h0 : Nat → Int} (hr : HRep σ n h0) (hw : WP h0) (h5 : h0 5 < 20000) (h : ∀ σ' : AM, HRep σ' n (minF h0) → Fr (HS n) σ σ' → σ'.2 = σ.2 → K (.inl (bI (decide (speechS h0 ≠ none)))) σ') : CALL (r + 4) n_House_passOne [.inr (.inr (22, n))] σ K := by
  refine r_House_passOne hC (fun J hJ => ?_)
  refine hJ _ _ _ _ ?_
  conv => whnf
  have b := hw.1.1
  have ob := speechS_ok hw.1
  have e5 : hP h0 5 < 20000 := by rw [hP_ne h0 (by omega) (by omega)]; exact h5
  -- behind the count: the minute itself
  have tail : ∀ σ1 : AM, HRep σ1 n (hP h0) → Fr (HS n) σ σ1 → σ1.2 = σ.2 → J 43 [.inr (.inr (22, n)), .inl (Int32.ofInt (spI (speechS h0)))] [] σ1 := by
    intro σ1 hr1 hf1 h21
    have bd := spI_bd hw.1 ob
    have en := spI_neg hw.1 ob
    refine hJ _ _ _ _ ?_
    conv => whnf
    refine s_monkOf hC hw.1 ob ?_
    conv => whnf
    refine s_topicOf hC hw.1 ob ?_
    conv => whnf
    refine s_goBy hC hr1 (hP_WF hw) (hP_sp ob) e5 (fun σ2 hr2 hf2 h22 => ?_)
    conv => whnf
    have fin := h σ2 hr2 (hf1.tr hf2) (h22.trans h21)
    refine ⟨fun c => ?_, fun c => ?_⟩
    · rw [oi_eq (by omega) (by omega) (by omega) (by omega), en.1] at c
      refine hJ _ _ _ _ ?_
      conv => whnf
      refine hJ _ _ _ _ ?_
      conv => whnf
      rw [show decide (speechS h0 ≠ none) = false from decide_eq_false (fun z => z c)] at fin
      exact ⟨Or.inl rfl, fin⟩
    · rw [oi_eq (by omega) (by omega) (by omega) (by omega), en.1] at c
      conv => whnf
      refine hJ _ _ _ _ ?_
      conv => whnf
      rw [show decide (speechS h0 ≠ none) = true from decide_eq_true c] at fin
      exact ⟨Or.inr rfl, fin⟩
  refine s_rostered hC hr hw.1 ?_
  conv => whnf
  have bd := spI_bd hw.1 (rostS_ok hw.1)
  have en := spI_neg hw.1 (rostS_ok hw.1)
  obtain ⟨-, -, -, -, -, -, q6, q7, -⟩ := id hr
  refine ⟨fun c => ?_, fun c => ?_⟩
  · rw [oi_eq (by omega) (by omega) (by omega) (by omega), en.1] at c
    have es : speechS h0 = rostS h0 := by
      unfold speechS
      cases hq : rostS h0 with
      | none => exact absurd hq c
      | some q => rfl
    rw [← es]
    refine tail σ (hr.eqv ?_) Fr.rf rfl
    funext j
    by_cases h6 : j = 6
    · subst h6
      rw [hP_6, if_neg (by rw [es]; exact c)]
    · by_cases h7 : j = 7
      · subst h7
        rw [hP_7, if_neg (fun z => c z.1)]
      · exact hP_ne h0 h6 h7
  · rw [oi_eq (by omega) (by omega) (by omega) (by omega), en.1] at c
    have es : speechS h0 = helpS h0 := by
      unfold speechS
      rw [c]
    conv => whnf
    refine s_helping hC hr hw.1 ?_
    conv => whnf
    rw [← es]
    have bd2 := spI_bd hw.1 ob
    have en2 := spI_neg hw.1 ob
    refine ⟨fun c2 => ?_, fun c2 => ?_⟩
    · rw [oi_eq (by omega) (by omega) (by omega) (by omega), en2.1] at c2
      refine hJ _ _ _ _ ?_
      conv => whnf
      rw [q7, oi_add]
      refine tail _ (hr.w7 (fun j hj => ?_) ?_) (Fr.wI ⟨by omega, by omega, rfl⟩) rfl
      · by_cases h6 : j = 6
        · subst h6
          rw [hP_6, if_neg c2]
        · exact hP_ne h0 h6 hj
      · rw [hP_7, if_pos ⟨c, c2⟩]
    · rw [oi_eq (by omega) (by omega) (by omega) (by omega), en2.1] at c2
      conv => whnf
      rw [q6, oi_add]
      refine tail _ (hr.w6 (fun j hj => ?_) ?_) (Fr.wI ⟨by omega, by omega, rfl⟩) rfl
      · by_cases h7 : j = 7
        · subst h7
          rw [hP_7, if_neg (fun z => z.2 c2)]
        · exact hP_ne h0 hj h7
      · rw [hP_6, if_pos c2]
theorem s_pass {CALL : CT} (hC : RuleAll CALL) {r : Nat} {σ : AM} {K : AV → AM → Prop} {n k : Nat} {h0 : Nat → Int} (hr : HRep σ n h0) (hw : WP h0) (h5 : h0 5 + k ≤ 20000) (h : ∀ σ' : AM, HRep σ' n (minN k h0) → Fr (HS n) σ σ' → σ'.2 = σ.2 → K (.inl (Int32.ofInt (minN k h0 6 - h0 6))) σ') : CALL (r + 5) n_House_pass [.inr (.inr (22, n)), .inl (Int32.ofInt k)] σ K := by
  refine r_House_pass hC (fun J hJ => ?_)
  refine hJ _ _ _ _ ?_
  conv => whnf
  have b := hw.1.1
  obtain ⟨-, -, -, -, -, -, q6, -⟩ := id hr
  rw [q6]
  have loop : ∀ (d i : Nat) (σi : AM), i + d = k → HRep σi n (minN i h0) → Fr (HS n) σ σi → σi.2 = σ.2 → J 7 [.inr (.inr (22, n)), .inl (Int32.ofInt k), .inl (Int32.ofInt (h0 6)), .inl (Int32.ofInt (i : Int))] [] σi := by
    intro d
    induction d with
    | zero =>
      intro i σi hi hri hf h2
      have : i = k := by omega
      subst this
      refine hJ _ _ _ _ ?_
      conv => whnf
      refine ⟨fun c => ?_, fun c => ?_⟩
      · refine hJ _ _ _ _ ?_
        conv => whnf
        obtain ⟨-, -, -, -, -, -, p6, -⟩ := id hri
        rw [p6, oi_sub]
        exact h σi hri hf h2
      · exact absurd (Int32.le_refl _) c
    | succ d ih =>
      intro i σi hi hri hf h2
      have hwi := minN_WF i hw (by omega)
      refine hJ _ _ _ _ ?_
      conv => whnf
      refine ⟨fun c => ?_, fun c => ?_⟩
      · rw [oi_le (by omega) (by omega) (by omega) (by omega)] at c
        omega
      · conv => whnf
        refine s_passOne hC hri hwi.1 (by rw [hwi.2]; omega) (fun σ2 hr2 hf2 h22 => ?_)
        conv => whnf
        rw [oi_succ]
        refine ih (i + 1) σ2 (by omega) ?_ (hf.tr hf2) (h22.trans h2)
        rw [minN_succ]
        exact hr2
  exact loop k 0 σ (by omega) hr Fr.rf rfl
