/-! a house as numbers, in the reference's layout -/
/-- who is awake, as a set -/
def awS (h : Nat → Int) : Nat := (List.range 7).foldl (fun (a m : Nat) => if (m : Int) < h 1 ∧ h (27 + 7 * m) = 1 then a ||| 2 ^ m else a) 0
def HRep (σ : AM) (n : Nat) (h : Nat → Int) : Prop :=
  σ.1 23 n 3 = Int32.ofInt (h 0) ∧ σ.1 27 n 8 = Int32.ofInt (h 1) ∧ σ.1 22 n 4 = Int32.ofInt (h 2) ∧ σ.1 22 n 5 = Int32.ofInt (h 3) ∧ σ.1 22 n 6 = Int32.ofInt (h 4) ∧ σ.1 22 n 7 = Int32.ofInt (h 5) ∧ σ.1 22 n 8 = Int32.ofInt (h 6) ∧ σ.1 22 n 9 = Int32.ofInt (h 7) ∧ σ.1 22 n 10 = Int32.ofInt (h 8) ∧ σ.1 22 n 11 = Int32.ofInt (h 9) ∧ σ.1 27 n 7 = Int32.ofInt (awS h) ∧
  (∀ t : Nat, (t : Int) < h 0 → σ.1 25 n t = Int32.ofInt (h (12 + 2 * t)) ∧ σ.1 26 n t = Int32.ofInt (h (13 + 2 * t))) ∧
  (∀ m : Nat, (m : Int) < h 1 → σ.1 29 n m = Int32.ofInt (h (24 + 7 * m)) ∧ σ.1 30 n m = Int32.ofInt (h (25 + 7 * m)) ∧ σ.1 31 n m = Int32.ofInt (h (26 + 7 * m)) ∧ σ.1 32 n m = Int32.ofInt (h (28 + 7 * m)) ∧ σ.1 33 n m = Int32.ofInt (h (29 + 7 * m)) ∧ σ.1 34 n m = Int32.ofInt (h (30 + 7 * m))) ∧
  (∀ e : Nat, (e : Int) < h 2 → σ.1 35 n e = Int32.ofInt (h (73 + 2 * e)) ∧ σ.1 36 n e = Int32.ofInt (h (74 + 2 * e)))
/-- the reference's own, from a place on -/
def MRep (σ : AM) (b : Nat) (h : Nat → Int) : Prop := ∀ j : Nat, j < 97 → σ.1 47 0 (b + j) = Int32.ofInt (h j)
def WF (h : Nat → Int) : Prop :=
  (0 ≤ h 0 ∧ h 0 ≤ 6 ∧ 0 ≤ h 1 ∧ h 1 ≤ 7 ∧ 0 ≤ h 2 ∧ h 2 ≤ 12 ∧ 1 ≤ h 3 ∧ h 3 ≤ 99 ∧ 0 ≤ h 4 ∧ h 4 ≤ 16 ∧ 0 ≤ h 5 ∧ h 5 ≤ 20000 ∧ 0 ≤ h 6 ∧ h 6 ≤ 20001 ∧ 0 ≤ h 7 ∧ h 7 ≤ 20001 ∧ 0 ≤ h 8 ∧ (h 8 < h 1 ∨ (h 1 = 0 ∧ h 8 = 0)) ∧ -1 ≤ h 9 ∧ (h 9 < h 0 ∨ h 9 = -1)) ∧
  (∀ t : Nat, (t : Int) < h 0 → 0 ≤ h (12 + 2 * t) ∧ h (12 + 2 * t) ≤ 20 ∧ 0 ≤ h (13 + 2 * t) ∧ h (13 + 2 * t) < 64) ∧
  (∀ m : Nat, (m : Int) < h 1 → 0 ≤ h (24 + 7 * m) ∧ h (24 + 7 * m) ≤ h (25 + 7 * m) ∧ h (25 + 7 * m) ≤ 99 ∧ 0 ≤ h (26 + 7 * m) ∧ h (26 + 7 * m) ≤ 9 ∧ 0 ≤ h (27 + 7 * m) ∧ h (27 + 7 * m) ≤ 1 ∧ 0 ≤ h (28 + 7 * m) ∧ h (28 + 7 * m) ≤ h 5 ∧ 0 ≤ h (29 + 7 * m) ∧ h (29 + 7 * m) ≤ h 5 ∧ 0 ≤ h (30 + 7 * m) ∧ h (30 + 7 * m) < 128) ∧
  (∀ e : Nat, (e : Int) < h 2 → 0 ≤ h (73 + 2 * e) ∧ h (73 + 2 * e) < h 1 ∧ 0 ≤ h (74 + 2 * e) ∧ h (74 + 2 * e) < h 0)
/-- no more pauses, helps than minutes -/
def WP (h : Nat → Int) : Prop := WF h ∧ h 6 ≤ h 5 ∧ h 7 ≤ h 5
/-- the topics that may come now -/
def openS (h : Nat → Int) : Nat := if h 9 = -1 then 2 ^ (h 0).toNat - 1 else (h (13 + 2 * (h 9).toNat)).toNat
def talkS (h : Nat → Int) (m : Nat) : Bool := decide ((m : Int) ≠ h 8) && decide (h (27 + 7 * m) = 1)
def canS (h : Nat → Int) (m t : Nat) : Bool := talkS h m && (decide (h (12 + 2 * t) ≤ h (24 + 7 * m)) && (openS h).testBit t)
theorem fold_bit (p : Nat → Prop) [DecidablePred p] : ∀ (l : List Nat) (a k : Nat), (l.foldl (fun a m => if p m then a ||| 2 ^ m else a) a).testBit k = (a.testBit k || decide (k ∈ l ∧ p k))
  | [], a, k => by simp
  | m :: l, a, k => by
    rw [List.foldl_cons, fold_bit p l]
    by_cases hp : p m
    · rw [if_pos hp, Nat.testBit_or, Nat.testBit_two_pow]
      by_cases hk : m = k
      · subst hk
        simp [hp]
      · have hk2 : ¬ k = m := fun z => hk z.symm
        simp [hk, hk2]
    · rw [if_neg hp]
      by_cases hk : k = m
      · subst hk
        simp [hp]
      · simp [hk]
theorem fold_lt (p : Nat → Prop) [DecidablePred p] (n : Nat) : ∀ (l : List Nat) (a : Nat), a < 2 ^ n → (∀ m ∈ l, m < n) → l.foldl (fun a m => if p m then a ||| 2 ^ m else a) a < 2 ^ n
  | [], a, h, _ => h
  | m :: l, a, h, hl => by
    rw [List.foldl_cons]
    refine fold_lt p n l _ ?_ (fun x hx => hl x (List.mem_cons_of_mem _ hx))
    by_cases hp : p m
    · rw [if_pos hp]
      exact Nat.or_lt_two_pow h (Nat.pow_lt_pow_right (by omega) (hl m List.mem_cons_self))
    · rw [if_neg hp]; exact h
theorem awS_bit (h : Nat → Int) (k : Nat) : (awS h).testBit k = decide (k < 7 ∧ (k : Int) < h 1 ∧ h (27 + 7 * k) = 1) := by
  unfold awS
  rw [fold_bit]
  simp
theorem awS_lt (h : Nat → Int) : awS h < 128 := by
  unfold awS
  exact fold_lt _ 7 (List.range 7) 0 (by decide) (fun m hm => List.mem_range.mp hm)
theorem openS_lt {h : Nat → Int} (hw : WF h) : openS h < 64 := by
  obtain ⟨⟨-, h0, -, -, -, -, -, -, -, -, -, -, -, -, -, -, -, -, h9, h9'⟩, ht, -⟩ := hw
  unfold openS
  by_cases e : h 9 = -1
  · rw [if_pos e]
    have : (2 : Nat) ^ (h 0).toNat ≤ 2 ^ 6 := Nat.pow_le_pow_right (by omega) (by omega)
    have h2 : 0 < (2 : Nat) ^ (h 0).toNat := Nat.pow_pos (by omega)
    omega
  · rw [if_neg e]
    have := ht (h 9).toNat (by omega)
    omega
theorem s_mayTalk {CALL : CT} (hC : RuleAll CALL) {r : Nat} {σ : AM} {K : AV → AM → Prop} {n m : Nat} {h0 : Nat → Int} (hr : HRep σ n h0) (hw : WF h0) (hm : (m : Int) < h0 1) (h : K (.inl (bI (talkS h0 m))) σ) : CALL (r + 1) n_House_mayTalk [.inr (.inr (22, n)), .inl (Int32.ofInt m)] σ K := by
  refine r_House_mayTalk hC (fun J hJ => ?_)
  refine hJ _ _ _ _ ?_
  conv => whnf
  obtain ⟨-, -, -, -, -, -, -, -, e8, -, ea, -⟩ := hr
  obtain ⟨⟨-, -, -, b1, -, -, -, -, -, -, -, -, -, -, -, -, b8, b8', -, -⟩, -, hmw, -⟩ := hw
  have hm2 := hmw m hm
  have hmn : m < 7 := by omega
  rw [e8]
  refine ⟨fun c => ?_, fun c => ?_⟩
  · rw [oi_eq (by omega) (by omega) (by omega) (by omega)] at c
    refine hJ _ _ _ _ ?_
    conv => whnf
    refine hJ _ _ _ _ ?_
    conv => whnf
    refine ⟨Or.inl rfl, ?_⟩
    have e : talkS h0 m = false := by simp [talkS, c]
    rw [e] at h
    exact h
  · rw [oi_eq (by omega) (by omega) (by omega) (by omega)] at c
    conv => whnf
    rw [ea, oi_bit (Nat.lt_trans (awS_lt h0) (by omega)) (by omega), awS_bit]
    have e : talkS h0 m = decide (m < 7 ∧ (m : Int) < h0 1 ∧ h0 (27 + 7 * m) = 1) := by simp [talkS, c, hm, hmn]
    rw [e] at h
    refine ⟨fun c2 => ?_, fun c2 => ?_⟩
    · refine hJ _ _ _ _ ?_
      conv => whnf
      refine hJ _ _ _ _ ?_
      conv => whnf
      refine ⟨Or.inl rfl, ?_⟩
      have e3 : decide (m < 7 ∧ (m : Int) < h0 1 ∧ h0 (27 + 7 * m) = 1) = false := by
        cases hd : decide (m < 7 ∧ (m : Int) < h0 1 ∧ h0 (27 + 7 * m) = 1) with
        | false => rfl
        | true => rw [hd] at c2; exact absurd rfl c2
      rw [e3] at h
      exact h
    · conv => whnf
      refine hJ _ _ _ _ ?_
      conv => whnf
      refine ⟨Or.inr rfl, ?_⟩
      have e3 : decide (m < 7 ∧ (m : Int) < h0 1 ∧ h0 (27 + 7 * m) = 1) = true := by
        cases hd : decide (m < 7 ∧ (m : Int) < h0 1 ∧ h0 (27 + 7 * m) = 1) with
        | true => rfl
        | false => rw [hd] at c2; exact absurd c2 (by decide)
      rw [e3] at h
      exact h
theorem s_open {CALL : CT} (hC : RuleAll CALL) {r : Nat} {σ : AM} {K : AV → AM → Prop} {n : Nat} {h0 : Nat → Int} (hr : HRep σ n h0) (hw : WF h0) (h : K (.inl (Int32.ofInt (openS h0))) σ) : CALL (r + 1) n_House_open [.inr (.inr (22, n))] σ K := by
  refine r_House_open hC (fun J hJ => ?_)
  refine hJ _ _ _ _ ?_
  conv => whnf
  obtain ⟨e0, -, -, -, -, -, -, -, -, e9, -, et, -⟩ := hr
  obtain ⟨⟨b0, b0', -, -, -, -, -, -, -, -, -, -, -, -, -, -, -, -, b9, b9'⟩, ht, -⟩ := hw
  rw [e9]
  refine ⟨fun c => ?_, fun c => ?_⟩
  · rw [oi_eq (by omega) (by omega) (by omega) (by omega)] at c
    refine hJ _ _ _ _ ?_
    conv => whnf
    rw [e9]
    refine ⟨(oi_in (by omega) (by omega)).mpr ⟨by omega, by omega⟩, ?_⟩
    conv => whnf
    refine hJ _ _ _ _ ?_
    conv => whnf
    have hb := ht (h0 9).toNat (by omega)
    rw [oi_nat (by omega) (by omega), (et (h0 9).toNat (by omega)).2]
    have e : ((openS h0 : Nat) : Int) = h0 (13 + 2 * (h0 9).toNat) := by
      unfold openS
      rw [if_neg c]
      omega
    rw [e] at h
    exact h
  · rw [oi_eq (by omega) (by omega) (by omega) (by omega)] at c
    conv => whnf
    refine hJ _ _ _ _ ?_
    conv => whnf
    rw [e0]
    have hk : h0 0 = (((h0 0).toNat : Nat) : Int) := by omega
    rw [hk, oi_shl (by omega), oi_sub]
    have h2 : 0 < (2 : Nat) ^ (h0 0).toNat := Nat.pow_pos (by omega)
    have e : ((openS h0 : Nat) : Int) = ((2 ^ (h0 0).toNat : Nat) : Int) - 1 := by
      unfold openS
      rw [if_pos c]
      omega
    rw [e] at h
    exact h
