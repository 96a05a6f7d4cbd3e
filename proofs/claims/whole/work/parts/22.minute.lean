/-! frames -/
def Fr (S : Nat → Nat → Prop) (σ σ' : AM) : Prop := ∀ t i, ¬ S t i → σ'.1 t i = σ.1 t i ∧ σ'.2.1 t i = σ.2.1 t i ∧ σ'.2.2 t i = σ.2.2 t i
theorem Fr.rf {S : Nat → Nat → Prop} {σ : AM} : Fr S σ σ := fun _ _ _ => ⟨rfl, rfl, rfl⟩
theorem Fr.tr {S : Nat → Nat → Prop} {σ σ' σ'' : AM} (h : Fr S σ σ') (h2 : Fr S σ' σ'') : Fr S σ σ'' := fun t i hs => ⟨(h2 t i hs).1.trans (h t i hs).1, (h2 t i hs).2.1.trans (h t i hs).2.1, (h2 t i hs).2.2.trans (h t i hs).2.2⟩
theorem Fr.mo {S S' : Nat → Nat → Prop} {σ σ' : AM} (h : Fr S σ σ') (hs : ∀ t i, S t i → S' t i) : Fr S' σ σ' := fun t i h2 => h t i (fun z => h2 (hs t i z))
theorem wI1 (σ : AM) (t i j : Nat) (x : Int32) (t' i' j' : Nat) : (wI σ t i j x).1 t' i' j' = if t' = t ∧ i' = i ∧ j' = j then x else σ.1 t' i' j' := rfl
theorem wI2 (σ : AM) (t i j : Nat) (x : Int32) : (wI σ t i j x).2 = σ.2 := rfl
theorem Fr.wI {S : Nat → Nat → Prop} {σ : AM} {t i j : Nat} {x : Int32} (h : S t i) : Fr S σ (wI σ t i j x) := by
  intro t' i' hs
  refine ⟨?_, rfl, rfl⟩
  funext j'
  rw [wI1, if_neg (fun z => hs (by rw [z.1, z.2.1]; exact h))]
theorem Fr.wL {S : Nat → Nat → Prop} {σ : AM} {t i j : Nat} {x : Int64} (h : S t i) : Fr S σ (wL σ t i j x) := by
  intro t' i' hs
  refine ⟨rfl, ?_, rfl⟩
  funext j'
  show (if t' = t ∧ i' = i ∧ j' = j then x else σ.2.1 t' i' j') = _
  rw [if_neg (fun z => hs (by rw [z.1, z.2.1]; exact h))]
theorem Fr.wR {S : Nat → Nat → Prop} {σ : AM} {t i j : Nat} {x : Nat} (h : S t i) : Fr S σ (wR σ t i j x) := by
  intro t' i' hs
  refine ⟨rfl, rfl, ?_⟩
  funext j'
  show (if t' = t ∧ i' = i ∧ j' = j then x else σ.2.2 t' i' j') = _
  rw [if_neg (fun z => hs (by rw [z.1, z.2.1]; exact h))]
/-- the cells of a house -/
def HS (n : Nat) : Nat → Nat → Prop := fun t i => 22 ≤ t ∧ t ≤ 36 ∧ i = n
/-- a house isn't changed by what changes elsewhere -/
theorem HRep.fr {σ σ' : AM} {n : Nat} {h : Nat → Int} {S : Nat → Nat → Prop} (hr : HRep σ n h) (hf : Fr S σ σ') (hs : ∀ t, 22 ≤ t → t ≤ 36 → ¬ S t n) : HRep σ' n h := by
  have e : ∀ t j, 22 ≤ t → t ≤ 36 → σ'.1 t n j = σ.1 t n j := fun t j h1 h2 => congrFun (hf t n (hs t h1 h2)).1 j
  obtain ⟨h0, h1, h2, h3, h4, h5, h6, h7, h8, h9, ha, ht, hm, he⟩ := hr
  refine ⟨?_, ?_, ?_, ?_, ?_, ?_, ?_, ?_, ?_, ?_, ?_, fun t q => ?_, fun m q => ?_, fun k q => ?_⟩
  all_goals simp only [e 22 _ (by omega) (by omega), e 23 _ (by omega) (by omega), e 25 _ (by omega) (by omega), e 26 _ (by omega) (by omega), e 27 _ (by omega) (by omega), e 29 _ (by omega) (by omega), e 30 _ (by omega) (by omega), e 31 _ (by omega) (by omega), e 32 _ (by omega) (by omega), e 33 _ (by omega) (by omega), e 34 _ (by omega) (by omega), e 35 _ (by omega) (by omega), e 36 _ (by omega) (by omega)]
  all_goals first | assumption | exact ht t q | exact hm m q | exact he k q
/-! who speaks -/
def firstF (p : Nat → Bool) : Nat → Nat → Option Nat
  | 0, _ => none
  | k + 1, i => if p i then some i else firstF p k (i + 1)
def firstG {β : Type} (f : Nat → Option β) : Nat → Nat → Option β
  | 0, _ => none
  | k + 1, i => match f i with
    | some b => some b
    | none => firstG f k (i + 1)
def opI : Option Nat → Int
  | none => -1
  | some t => t
abbrev Sp : Type := Option (Nat × Nat)
def spI : Sp → Int
  | none => -1
  | some (m, t) => 6 * m + t
def spM : Sp → Int
  | none => -1
  | some (m, _) => m
def spT : Sp → Int
  | none => -1
  | some (_, t) => t
def costS (h : Nat → Int) (b : Int) (set t : Nat) : Bool := decide (h (12 + 2 * t) ≤ b) && set.testBit t
def helpS (h : Nat → Int) : Sp := firstG (fun m => if talkS h m then (firstF (costS h (h (24 + 7 * m)) (openS h)) (h 0).toNat 0).map (fun t => (m, t)) else none) (h 1).toNat 0
def rostS (h : Nat → Int) : Sp := if 0 < h 2 then (if canS h (h (73 + 2 * (h 5 % h 2).toNat)).toNat (h (74 + 2 * (h 5 % h 2).toNat)).toNat then some ((h (73 + 2 * (h 5 % h 2).toNat)).toNat, (h (74 + 2 * (h 5 % h 2).toNat)).toNat) else none) else none
def speechS (h : Nat → Int) : Sp := match rostS h with
  | some q => some q
  | none => helpS h
theorem firstF_lt {p : Nat → Bool} : ∀ {k i t : Nat}, firstF p k i = some t → t < i + k ∧ p t = true
  | 0, i, t, h => by cases h
  | k + 1, i, t, h => by
    rw [firstF] at h
    by_cases hp : p i = true
    · rw [if_pos hp] at h
      cases h
      exact ⟨by omega, hp⟩
    · rw [if_neg hp] at h
      have := firstF_lt h
      exact ⟨by omega, this.2⟩
theorem firstG_ex {β : Type} {f : Nat → Option β} : ∀ {k i : Nat} {b : β}, firstG f k i = some b → ∃ m, m < i + k ∧ f m = some b
  | 0, i, b, h => by cases h
  | k + 1, i, b, h => by
    rw [firstG] at h
    cases hf : f i with
    | some c => rw [hf] at h; cases h; exact ⟨i, by omega, hf⟩
    | none =>
      rw [hf] at h
      obtain ⟨m, h1, h2⟩ := firstG_ex h
      exact ⟨m, by omega, h2⟩
/-- a speaker and a topic that there are -/
def spOk (h : Nat → Int) : Sp → Prop
  | none => True
  | some (m, t) => (m : Int) < h 1 ∧ (t : Int) < h 0 ∧ h (12 + 2 * t) ≤ h (24 + 7 * m)
theorem helpS_ok {h : Nat → Int} (hw : WF h) : spOk h (helpS h) := by
  have b := hw.1
  cases he : helpS h with
  | none => trivial
  | some q =>
    obtain ⟨m, h1, h2⟩ := firstG_ex he
    by_cases ht : talkS h m = true
    · rw [if_pos ht] at h2
      cases hf : firstF (costS h (h (24 + 7 * m)) (openS h)) (h 0).toNat 0 with
      | none => rw [hf] at h2; cases h2
      | some t =>
        rw [hf] at h2
        cases h2
        obtain ⟨h3, h4⟩ := firstF_lt hf
        simp only [costS, Bool.and_eq_true, decide_eq_true_eq] at h4
        exact ⟨by omega, by omega, h4.1⟩
    · rw [if_neg ht] at h2; cases h2
theorem rostS_ok {h : Nat → Int} (hw : WF h) : spOk h (rostS h) := by
  have b := hw.1
  unfold rostS
  by_cases h2 : 0 < h 2
  · rw [if_pos h2]
    split
    · rename_i hc
      have hb : 0 ≤ h 5 % h 2 := Int.emod_nonneg _ (by omega)
      have hb2 : h 5 % h 2 < h 2 := Int.emod_lt_of_pos _ h2
      have he := hw.2.2.2 (h 5 % h 2).toNat (by omega)
      simp only [canS, Bool.and_eq_true, decide_eq_true_eq] at hc
      exact ⟨by omega, by omega, hc.2.1⟩
    · trivial
  · rw [if_neg h2]; trivial
theorem speechS_ok {h : Nat → Int} (hw : WF h) : spOk h (speechS h) := by
  unfold speechS
  have h1 := rostS_ok hw
  have h2 := helpS_ok hw
  cases hr : rostS h with
  | none => exact h2
  | some q => rw [hr] at h1; exact h1
theorem s_canSay {CALL : CT} (hC : RuleAll CALL) {r : Nat} {σ : AM} {K : AV → AM → Prop} {n m t : Nat} {h0 : Nat → Int} (hr : HRep σ n h0) (hw : WF h0) (hm : (m : Int) < h0 1) (ht : (t : Int) < h0 0) (h : K (.inl (bI (canS h0 m t))) σ) : CALL (r + 2) n_House_canSay [.inr (.inr (22, n)), .inl (Int32.ofInt m), .inl (Int32.ofInt t)] σ K := by
  refine r_House_canSay hC (fun J hJ => ?_)
  refine hJ _ _ _ _ ?_
  conv => whnf
  have b := hw.1
  have hmw := hw.2.2.1 m hm
  have htw := hw.2.1 t ht
  refine s_mayTalk hC hr hw hm ?_
  conv => whnf
  refine ⟨fun c => ?_, fun c => ?_⟩
  · rw [bI_eq0] at c
    refine hJ _ _ _ _ ?_
    conv => whnf
    refine hJ _ _ _ _ ?_
    conv => whnf
    refine ⟨Or.inl rfl, ?_⟩
    have e : canS h0 m t = false := by simp [canS, c]
    rw [e] at h
    exact h
  · rw [bI_ne0] at c
    conv => whnf
    refine ⟨(oi_in (by omega) (by omega)).mpr ⟨by omega, by omega⟩, ?_⟩
    conv => whnf
    refine ⟨(oi_in (by omega) (by omega)).mpr ⟨by omega, by omega⟩, ?_⟩
    conv => whnf
    have hmem : σ.1 25 n t = Int32.ofInt (h0 (12 + 2 * t)) ∧ σ.1 29 n m = Int32.ofInt (h0 (24 + 7 * m)) := by
      obtain ⟨-, -, -, -, -, -, -, -, -, -, -, et, em, -⟩ := hr
      exact ⟨(et t ht).1, (em m hm).1⟩
    rw [oi_nat (by omega) (by omega), oi_nat (by omega) (by omega), Int.toNat_natCast, Int.toNat_natCast, hmem.1, hmem.2]
    refine ⟨fun c2 => ?_, fun c2 => ?_⟩
    · rw [oi_lt (by omega) (by omega) (by omega) (by omega)] at c2
      refine hJ _ _ _ _ ?_
      conv => whnf
      refine hJ _ _ _ _ ?_
      conv => whnf
      refine ⟨Or.inl rfl, ?_⟩
      have e : canS h0 m t = false := by
        have : ¬ h0 (12 + 2 * t) ≤ h0 (24 + 7 * m) := by omega
        simp [canS, this]
      rw [e] at h
      exact h
    · rw [oi_lt (by omega) (by omega) (by omega) (by omega)] at c2
      conv => whnf
      refine s_open hC hr hw ?_
      conv => whnf
      have ho := openS_lt hw
      refine s_has hC (by omega) (by omega) ?_
      conv => whnf
      have e : canS h0 m t = (openS h0).testBit t := by
        have : h0 (12 + 2 * t) ≤ h0 (24 + 7 * m) := by omega
        simp [canS, this, c]
      rw [e] at h
      refine ⟨fun c3 => ?_, fun c3 => ?_⟩
      · rw [bI_eq0] at c3
        refine hJ _ _ _ _ ?_
        conv => whnf
        refine hJ _ _ _ _ ?_
        conv => whnf
        refine ⟨Or.inl rfl, ?_⟩
        rw [c3] at h
        exact h
      · rw [bI_ne0] at c3
        conv => whnf
        refine hJ _ _ _ _ ?_
        conv => whnf
        refine ⟨Or.inr rfl, ?_⟩
        rw [c3] at h
        exact h
theorem s_restedL {CALL : CT} (hC : RuleAll CALL) {r : Nat} {σ : AM} {K : AV → AM → Prop} {n m : Nat} {k b mo re : Int} (hm : m < 7) (m1 : σ.1 29 n m = Int32.ofInt b) (m2 : σ.1 30 n m = Int32.ofInt mo) (m3 : σ.1 31 n m = Int32.ofInt re) (hb : 0 ≤ b ∧ b ≤ 99) (hmo : 0 ≤ mo ∧ mo ≤ 99) (hre : 0 ≤ re ∧ re ≤ 9) (hk : 0 ≤ k ∧ k ≤ 100) (h : K (.inl (Int32.ofInt (min mo (b + re * k)))) σ) : CALL (r + 1) n_Monks_rested [.inr (.inr (27, n)), .inl (Int32.ofInt m), .inl (Int32.ofInt k)] σ K := by
  refine r_Monks_rested hC (fun J hJ => ?_)
  refine hJ _ _ _ _ ?_
  conv => whnf
  have hp : re * k ≤ 9 * 100 := Int.mul_le_mul (by omega) (by omega) (by omega) (by omega)
  have hp0 : 0 ≤ re * k := Int.mul_nonneg (by omega) (by omega)
  refine ⟨(oi_in (by omega) (by omega)).mpr ⟨by omega, by omega⟩, ?_⟩
  conv => whnf
  refine ⟨(oi_in (by omega) (by omega)).mpr ⟨by omega, by omega⟩, ?_⟩
  conv => whnf
  refine ⟨(oi_in (by omega) (by omega)).mpr ⟨by omega, by omega⟩, ?_⟩
  conv => whnf
  rw [oi_nat (by omega) (by omega), Int.toNat_natCast, m1, m2, m3, oi_mul, oi_add]
  refine ⟨fun c => ?_, fun c => ?_⟩
  · rw [oi_le (by omega) (by omega) (by omega) (by omega)] at c
    refine hJ _ _ _ _ ?_
    conv => whnf
    refine ⟨(oi_in (by omega) (by omega)).mpr ⟨by omega, by omega⟩, ?_⟩
    conv => whnf
    refine hJ _ _ _ _ ?_
    conv => whnf
    rw [oi_nat (by omega) (by omega), Int.toNat_natCast, m2]
    rw [show min mo (b + re * k) = mo by omega] at h
    exact h
  · rw [oi_le (by omega) (by omega) (by omega) (by omega)] at c
    conv => whnf
    refine hJ _ _ _ _ ?_
    conv => whnf
    rw [show min mo (b + re * k) = b + re * k by omega] at h
    exact h
theorem s_rested {CALL : CT} (hC : RuleAll CALL) {r : Nat} {σ : AM} {K : AV → AM → Prop} {n m : Nat} {k : Int} {h0 : Nat → Int} (hr : HRep σ n h0) (hw : WF h0) (hm : (m : Int) < h0 1) (hk : 0 ≤ k ∧ k ≤ 100) (h : K (.inl (Int32.ofInt (min (h0 (25 + 7 * m)) (h0 (24 + 7 * m) + h0 (26 + 7 * m) * k)))) σ) : CALL (r + 1) n_Monks_rested [.inr (.inr (27, n)), .inl (Int32.ofInt m), .inl (Int32.ofInt k)] σ K := by
  have b := hw.1
  have hmw := hw.2.2.1 m hm
  obtain ⟨-, -, -, -, -, -, -, -, -, -, -, -, em, -⟩ := hr
  obtain ⟨m1, m2, m3, -⟩ := em m hm
  exact s_restedL hC (by omega) m1 m2 m3 (by omega) (by omega) (by omega) hk h
