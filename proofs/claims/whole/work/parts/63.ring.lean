/-! walks from topic to topic -/
def wk (g : Nat → Nat) (c : Nat) : Nat → Nat → Nat → Bool
  | 0, a, b => decide (a = b)
  | k + 1, a, b => anyB (fun n => (g a).testBit n && wk g c k n b) c
theorem anyB_yes {p : Nat → Bool} {c : Nat} : anyB p c = true ↔ ∃ k, k < c ∧ p k = true := by
  constructor
  · intro h
    cases hf : firstF p c 0 with
    | none => rw [anyB_first, hf] at h; cases h
    | some t =>
      have := firstF_ge hf
      exact ⟨t, by omega, this.2.2.1⟩
  · rintro ⟨k, h1, h2⟩
    cases ha : anyB p c with
    | true => rfl
    | false => have := anyB_no.mp ha k h1; rw [h2] at this; cases this
theorem wk_s {g : Nat → Nat} {c k a b : Nat} : wk g c (k + 1) a b = true ↔ ∃ n, n < c ∧ (g a).testBit n = true ∧ wk g c k n b = true := by
  rw [wk, anyB_yes]
  simp only [Bool.and_eq_true]
theorem wk_cat {g : Nat → Nat} {c b : Nat} : ∀ {j k a m : Nat}, wk g c j a m = true → wk g c k m b = true → wk g c (j + k) a b = true
  | 0, k, a, m, h1, h2 => by
    have : a = m := by simpa [wk] using h1
    subst this
    rw [Nat.zero_add]
    exact h2
  | j + 1, k, a, m, h1, h2 => by
    obtain ⟨n, n1, n2, n3⟩ := wk_s.mp h1
    rw [show j + 1 + k = (j + k) + 1 by omega]
    exact wk_s.mpr ⟨n, n1, n2, wk_cat n3 h2⟩
/-- the places of a walk -/
theorem wk_fn {g : Nat → Nat} {c b : Nat} : ∀ {k a : Nat}, wk g c k a b = true → a < c → ∃ v : Nat → Nat, v 0 = a ∧ v k = b ∧ (∀ i, i ≤ k → v i < c) ∧ ∀ i j, i ≤ j → j ≤ k → wk g c (j - i) (v i) (v j) = true
  | 0, a, h, ha => by
    have : a = b := by simpa [wk] using h
    subst this
    refine ⟨fun _ => a, rfl, rfl, fun _ _ => ha, fun i j h1 h2 => ?_⟩
    rw [show j - i = 0 by omega]
    simp [wk]
  | k + 1, a, h, ha => by
    obtain ⟨n, n1, n2, n3⟩ := wk_s.mp h
    obtain ⟨v, v0, vk, vc, vw⟩ := wk_fn n3 n1
    refine ⟨fun i => if i = 0 then a else v (i - 1), rfl, by simpa using vk, fun i hi => ?_, fun i j h1 h2 => ?_⟩
    · by_cases e : i = 0
      · subst e; simpa using ha
      · dsimp only
        rw [if_neg e]
        exact vc (i - 1) (by omega)
    · by_cases e : i = 0
      · subst e
        by_cases e2 : j = 0
        · subst e2; simp [wk]
        · dsimp only
          rw [if_pos rfl, if_neg e2, Nat.sub_zero, show j = (j - 1) + 1 by omega]
          refine wk_s.mpr ⟨n, n1, n2, ?_⟩
          have := vw 0 (j - 1) (by omega) (by omega)
          rw [v0, Nat.sub_zero] at this
          rw [show j - 1 + 1 - 1 = j - 1 by omega]
          exact this
      · dsimp only
        rw [if_neg e, if_neg (by omega)]
        have := vw (i - 1) (j - 1) (by omega) (by omega)
        rw [show j - 1 - (i - 1) = j - i by omega] at this
        exact this
theorem pigeon : ∀ (c : Nat) (v : Nat → Nat), (∀ i, i ≤ c → v i < c) → ∃ i j, i < j ∧ j ≤ c ∧ v i = v j
  | 0, v, h => by have := h 0 (by omega); omega
  | c + 1, v, h => by
    by_cases hx : ∃ i, i < c + 1 ∧ v i = v (c + 1)
    · obtain ⟨i, h1, h2⟩ := hx
      exact ⟨i, c + 1, by omega, by omega, h2⟩
    · have hne : ∀ i, i < c + 1 → v i ≠ v (c + 1) := fun i hi z => hx ⟨i, hi, z⟩
      obtain ⟨i, j, h1, h2, h3⟩ := pigeon c (fun i => if v (c + 1) < v i then v i - 1 else v i) (fun i hi => by
        have := h i (by omega)
        have := h (c + 1) (by omega)
        have := hne i (by omega)
        split <;> omega)
      refine ⟨i, j, h1, by omega, ?_⟩
      have := hne i (by omega)
      have := hne j (by omega)
      split at h3 <;> split at h3 <;> omega
/-- a ring that is too long has a shorter one in it -/
theorem ring_short {g : Nat → Nat} {c k a : Nat} (ha : a < c) (hk : 1 ≤ k) (h : wk g c k a a = true) : ∃ l m, 1 ≤ l ∧ l ≤ c ∧ l ≤ k ∧ m < c ∧ wk g c l m m = true := by
  by_cases hc : k ≤ c
  · exact ⟨k, a, hk, hc, Nat.le_refl k, ha, h⟩
  · obtain ⟨v, -, -, vc, vw⟩ := wk_fn h ha
    obtain ⟨i, j, h1, h2, h3⟩ := pigeon c v (fun i hi => vc i (by omega))
    have := vw i j (by omega) (by omega)
    rw [← h3] at this
    exact ⟨j - i, v i, by omega, by omega, by omega, vc i (by omega), this⟩
/-! the class -/
/-- the least topic that goes on, and the row of a ring -/
def rn (g : Nat → Nat) (c f e u : Nat) : Option Nat := firstF (fun n => (g u).testBit n && wk g c e n f) c 0
def rp (g : Nat → Nat) (c f : Nat) : Nat → Nat → Nat → Nat
  | 0, _, u => u
  | i + 1, e, u => match rn g c f e u with
    | some n => rp g c f i (e - 1) n
    | none => u
def roS (t i _j : Nat) : Prop := i = 0 ∧ t = 17
theorem wk_1 {g : Nat → Nat} {c u f : Nat} (hf : f < c) : wk g c 1 u f = (g u).testBit f := by
  cases hb : (g u).testBit f with
  | true => exact wk_s.mpr ⟨f, hf, hb, by simp [wk]⟩
  | false =>
    cases hw : wk g c 1 u f with
    | false => rfl
    | true =>
      obtain ⟨n, n1, n2, n3⟩ := wk_s.mp hw
      have : n = f := by simpa [wk] using n3
      subst this
      rw [hb] at n2
      cases n2
theorem s_closes1 {CALL : CT} (hC : RuleAll CALL) {n r : Nat} {h0 : Nat → Int} {σ : AM} {K : AV → AM → Prop} {d u f e : Nat} (hr : HRep σ n h0) (hw : WF h0) (hu : (u : Int) < h0 0) (hf : (f : Int) < h0 0) (hd : 1 ≤ d) (hde : d + e ≤ 6) (g0 : σ.1 17 0 0 = Int32.ofInt (f : Nat)) (g1 : σ.1 17 0 (d - 1) = Int32.ofInt (u : Nat))
    (rec : ∀ (nx : Nat) (σ1 : AM) (K' : AV → AM → Prop), 1 ≤ e → (nx : Int) < h0 0 → HRep σ1 n h0 → σ1.1 17 0 0 = Int32.ofInt (f : Nat) → σ1.1 17 0 d = Int32.ofInt (nx : Nat) → (∀ σ2 : AM, Ch roS σ1 σ2 → (∀ j, j < d + 1 → σ2.1 17 0 j = σ1.1 17 0 j) → (wk (nxS h0) (h0 0).toNat e nx f = true → ∀ i, i < e → σ2.1 17 0 (d + i) = Int32.ofInt (rp (nxS h0) (h0 0).toNat f i (e - 1) nx : Nat)) → K' (.inl (bI (wk (nxS h0) (h0 0).toNat e nx f))) σ2) → CALL (r + 1) n_Talk_closes [.inr (.inr (16, 0)), .inr (.inr (23, n)), .inl (Int32.ofInt ((d + 1 : Nat) : Int)), .inl (Int32.ofInt ((d + e : Nat) : Int))] σ1 K')
    (h : ∀ σ2 : AM, Ch roS σ σ2 → (∀ j, j < d → σ2.1 17 0 j = σ.1 17 0 j) → (wk (nxS h0) (h0 0).toNat (e + 1) u f = true → ∀ i, i < e + 1 → σ2.1 17 0 (d - 1 + i) = Int32.ofInt (rp (nxS h0) (h0 0).toNat f i e u : Nat)) → K (.inl (bI (wk (nxS h0) (h0 0).toNat (e + 1) u f))) σ2) : CALL (r + 2) n_Talk_closes [.inr (.inr (16, 0)), .inr (.inr (23, n)), .inl (Int32.ofInt (d : Int)), .inl (Int32.ofInt ((d + e : Nat) : Int))] σ K := by
  have b := hw.1
  have hnl := nxS_lt hw hu
  have fr : ∀ σ1 : AM, Ch roS σ σ1 → HRep σ1 n h0 := by
    intro σ1 hc
    refine hr.fr (S := fun t i => i = 0 ∧ t = 17) (fun t i hn => ⟨?_, by rw [hc.2], by rw [hc.2]⟩) (fun t a b z => by omega)
    funext j
    exact hc.1 t i j (fun z => hn z)
  refine r_Talk_closes hC (fun J hJ => ?_)
  refine hJ _ _ _ _ ?_
  conv => whnf
  refine ⟨fun c => ?_, fun c => ?_⟩ <;> (try simp (disch := omega) only [oi_le, oi_lt, oi_eq, oi_lt0, oi_le0, oi_0lt, oi_0le, oi_eq0, oi_eq1, bI_eq0, bI_ne0, bI_eq1, decide_eq_true_eq, decide_eq_false_iff_not, lc_lt, lc_gt, lc_eq, lc_ge, lc_le, ol_lt, ol_eq, ne_eq, Int.not_lt, Int.not_le, Bool.not_eq_true, Bool.not_eq_false, Decidable.not_not, not_true_eq_false, not_false_eq_true, Bool.true_eq_false, Bool.false_eq_true] at c) <;> (first | (exfalso; omega) | ((with_reducible refine hJ _ _ _ _ ?_); conv => whnf) | (conv => whnf))
  refine ⟨fun c2 => ?_, fun c2 => ?_⟩ <;> (try simp (disch := omega) only [oi_le, oi_lt, oi_eq, oi_lt0, oi_le0, oi_0lt, oi_0le, oi_eq0, oi_eq1, bI_eq0, bI_ne0, bI_eq1, decide_eq_true_eq, decide_eq_false_iff_not, lc_lt, lc_gt, lc_eq, lc_ge, lc_le, ol_lt, ol_eq, ne_eq, Int.not_lt, Int.not_le, Bool.not_eq_true, Bool.not_eq_false, Decidable.not_not, not_true_eq_false, not_false_eq_true, Bool.true_eq_false, Bool.false_eq_true] at c2) <;> (first | (exfalso; omega) | ((with_reducible refine hJ _ _ _ _ ?_); conv => whnf) | (conv => whnf))
  rw [oi_sub]
  refine ⟨(oi_in (by omega) (by omega)).mpr ⟨by omega, by omega⟩, ?_⟩
  conv => whnf
  rw [oi_nat (by omega) (by omega), show ((d : Int) - 1).toNat = d - 1 by omega, g1]
  refine ⟨(oi_in (by omega) (by omega)).mpr ⟨by omega, by omega⟩, ?_⟩
  conv => whnf
  rw [oi_nat (by omega) (by omega), Int.toNat_natCast, hr_nx hr hw hu]
  by_cases he : e = 0
  · subst he
    refine ⟨fun c3 => ?_, fun c3 => ?_⟩ <;> (try simp (disch := omega) only [oi_le, oi_lt, oi_eq, oi_lt0, oi_le0, oi_0lt, oi_0le, oi_eq0, oi_eq1, bI_eq0, bI_ne0, bI_eq1, decide_eq_true_eq, decide_eq_false_iff_not, lc_lt, lc_gt, lc_eq, lc_ge, lc_le, ol_lt, ol_eq, ne_eq, Int.not_lt, Int.not_le, Bool.not_eq_true, Bool.not_eq_false, Decidable.not_not, not_true_eq_false, not_false_eq_true, Bool.true_eq_false, Bool.false_eq_true] at c3) <;> (first | (exfalso; omega) | ((with_reducible refine hJ _ _ _ _ ?_); conv => whnf) | (conv => whnf))
    refine ⟨(oi_in (by omega) (by omega)).mpr ⟨by omega, by omega⟩, ?_⟩
    conv => whnf
    rw [show (Int32.ofInt 0).toNatClampNeg = 0 from rfl, g0]
    refine s_has hC (by omega) (by omega) ?_
    conv => whnf
    rw [← wk_1 (c := (h0 0).toNat) (by omega)]
    refine ⟨bI_01 _, h σ Ch.rf (fun _ _ => rfl) ?_⟩
    intro _ i hi
    have : i = 0 := by omega
    subst this
    exact g1
  · refine ⟨fun c3 => ?_, fun c3 => ?_⟩ <;> (try simp (disch := omega) only [oi_le, oi_lt, oi_eq, oi_lt0, oi_le0, oi_0lt, oi_0le, oi_eq0, oi_eq1, bI_eq0, bI_ne0, bI_eq1, decide_eq_true_eq, decide_eq_false_iff_not, lc_lt, lc_gt, lc_eq, lc_ge, lc_le, ol_lt, ol_eq, ne_eq, Int.not_lt, Int.not_le, Bool.not_eq_true, Bool.not_eq_false, Decidable.not_not, not_true_eq_false, not_false_eq_true, Bool.true_eq_false, Bool.false_eq_true] at c3) <;> (first | (exfalso; omega) | ((with_reducible refine hJ _ _ _ _ ?_); conv => whnf) | (conv => whnf))
    have key : ∀ (nx : Nat), wk (nxS h0) (h0 0).toNat (e + 1) u f = true → rn (nxS h0) (h0 0).toNat f e u = some nx → ∀ i, 1 ≤ i → i < e + 1 → rp (nxS h0) (h0 0).toNat f i e u = rp (nxS h0) (h0 0).toNat f (i - 1) (e - 1) nx := by
      intro nx _ hrn i h1 h2
      obtain ⟨i, rfl⟩ : ∃ j, i = j + 1 := ⟨i - 1, by omega⟩
      rw [rp, hrn]
      rfl
    have loop : ∀ (q nx : Nat) (σ1 : AM), nx + q = (h0 0).toNat → Ch roS σ σ1 → (∀ j, j < d → σ1.1 17 0 j = σ.1 17 0 j) → rn (nxS h0) (h0 0).toNat f e u = firstF (fun n => (nxS h0 u).testBit n && wk (nxS h0) (h0 0).toNat e n f) q nx → J 48 [.inr (.inr (16, 0)), .inr (.inr (23, n)), .inl (Int32.ofInt (d : Int)), .inl (Int32.ofInt ((d + e : Nat) : Int)), .inl (Int32.ofInt (nxS h0 u : Nat)), .inl (Int32.ofInt (nx : Int))] [] σ1 := by
      intro q
      induction q with
      | zero =>
        intro nx σ1 hi f1 f2 f3
        have hno : wk (nxS h0) (h0 0).toNat (e + 1) u f = false := by
          rw [wk, anyB_first]
          show (rn (nxS h0) (h0 0).toNat f e u).isSome = false
          rw [f3]
          rfl
        refine hJ _ _ _ _ ?_
        conv => whnf
        rw [(fr σ1 f1).1]
        refine ⟨fun c4 => ?_, fun c4 => ?_⟩ <;> (try simp (disch := omega) only [oi_le, oi_lt, oi_eq, oi_lt0, oi_le0, oi_0lt, oi_0le, oi_eq0, oi_eq1, bI_eq0, bI_ne0, bI_eq1, decide_eq_true_eq, decide_eq_false_iff_not, lc_lt, lc_gt, lc_eq, lc_ge, lc_le, ol_lt, ol_eq, ne_eq, Int.not_lt, Int.not_le, Bool.not_eq_true, Bool.not_eq_false, Decidable.not_not, not_true_eq_false, not_false_eq_true, Bool.true_eq_false, Bool.false_eq_true] at c4) <;> (first | (exfalso; omega) | ((with_reducible refine hJ _ _ _ _ ?_); conv => whnf) | (conv => whnf))
        have hh := h σ1 f1 f2
        rw [hno] at hh
        exact ⟨Or.inl rfl, hh (fun z => by cases z)⟩
      | succ q ih =>
        intro nx σ1 hi f1 f2 f3
        rw [firstF] at f3
        refine hJ _ _ _ _ ?_
        conv => whnf
        rw [(fr σ1 f1).1]
        refine ⟨fun c4 => ?_, fun c4 => ?_⟩ <;> (try simp (disch := omega) only [oi_le, oi_lt, oi_eq, oi_lt0, oi_le0, oi_0lt, oi_0le, oi_eq0, oi_eq1, bI_eq0, bI_ne0, bI_eq1, decide_eq_true_eq, decide_eq_false_iff_not, lc_lt, lc_gt, lc_eq, lc_ge, lc_le, ol_lt, ol_eq, ne_eq, Int.not_lt, Int.not_le, Bool.not_eq_true, Bool.not_eq_false, Decidable.not_not, not_true_eq_false, not_false_eq_true, Bool.true_eq_false, Bool.false_eq_true] at c4) <;> (first | (exfalso; omega) | ((with_reducible refine hJ _ _ _ _ ?_); conv => whnf) | (conv => whnf))
        refine s_has hC (by omega) (by omega) ?_
        conv => whnf
        refine ⟨fun c5 => ?_, fun c5 => ?_⟩ <;> (try simp (disch := omega) only [oi_le, oi_lt, oi_eq, oi_lt0, oi_le0, oi_0lt, oi_0le, oi_eq0, oi_eq1, bI_eq0, bI_ne0, bI_eq1, decide_eq_true_eq, decide_eq_false_iff_not, lc_lt, lc_gt, lc_eq, lc_ge, lc_le, ol_lt, ol_eq, ne_eq, Int.not_lt, Int.not_le, Bool.not_eq_true, Bool.not_eq_false, Decidable.not_not, not_true_eq_false, not_false_eq_true, Bool.true_eq_false, Bool.false_eq_true] at c5) <;> (first | (exfalso; omega) | ((with_reducible refine hJ _ _ _ _ ?_); conv => whnf) | (conv => whnf))
        · rw [oi_succ]
          rw [if_neg (by rw [c5]; simp)] at f3
          exact ih (nx + 1) σ1 (by omega) f1 f2 f3
        · refine ⟨(oi_in (by omega) (by omega)).mpr ⟨by omega, by omega⟩, ?_⟩
          conv => whnf
          rw [oi_nat (by omega) (by omega), Int.toNat_natCast, oi_succ]
          have f1' : Ch roS σ (wI σ1 17 0 d (Int32.ofInt (nx : Int))) := f1.tr (Ch.wI ⟨rfl, rfl⟩)
          have f2' : ∀ j, j < d → (wI σ1 17 0 d (Int32.ofInt (nx : Int))).1 17 0 j = σ.1 17 0 j := fun j hj => by rw [wI1, if_neg (by omega)]; exact f2 j hj
          have f4' : (wI σ1 17 0 d (Int32.ofInt (nx : Int))).1 17 0 d = Int32.ofInt (nx : Nat) := by rw [wI1, if_pos ⟨rfl, rfl, rfl⟩]
          generalize wI σ1 17 0 d (Int32.ofInt (nx : Int)) = σ1' at f1' f2' f4' ⊢
          refine rec nx σ1' _ (by omega) (by omega) (fr σ1' f1') ((f2' 0 (by omega)).trans g0) f4' ?_
          intro σ2 k1 k2 k3
          conv => whnf
          have k2' : ∀ j, j < d → σ2.1 17 0 j = σ.1 17 0 j := fun j hj => (k2 j (by omega)).trans (f2' j hj)
          refine ⟨fun c6 => ?_, fun c6 => ?_⟩ <;> (try simp (disch := omega) only [oi_le, oi_lt, oi_eq, oi_lt0, oi_le0, oi_0lt, oi_0le, oi_eq0, oi_eq1, bI_eq0, bI_ne0, bI_eq1, decide_eq_true_eq, decide_eq_false_iff_not, lc_lt, lc_gt, lc_eq, lc_ge, lc_le, ol_lt, ol_eq, ne_eq, Int.not_lt, Int.not_le, Bool.not_eq_true, Bool.not_eq_false, Decidable.not_not, not_true_eq_false, not_false_eq_true, Bool.true_eq_false, Bool.false_eq_true] at c6) <;> (first | (exfalso; omega) | ((with_reducible refine hJ _ _ _ _ ?_); conv => whnf) | (conv => whnf))
          · rw [oi_succ]
            rw [if_neg (by rw [c6]; simp)] at f3
            exact ih (nx + 1) σ2 (by omega) (f1'.tr k1) k2' f3
          · rw [if_pos (by rw [c5, c6]; rfl)] at f3
            have hyes : wk (nxS h0) (h0 0).toNat (e + 1) u f = true := wk_s.mpr ⟨nx, by omega, c5, c6⟩
            have hh := h σ2 (f1'.tr k1) k2'
            rw [hyes] at hh
            refine ⟨Or.inr rfl, hh (fun _ i hi => ?_)⟩
            by_cases e0 : i = 0
            · subst e0
              rw [Nat.add_zero, k2' (d - 1) (by omega), g1]
              rfl
            · rw [key nx hyes f3 i (by omega) hi, show d - 1 + i = d + (i - 1) by omega]
              exact k3 c6 (i - 1) (by omega)
    exact loop (h0 0).toNat 0 σ (by omega) Ch.rf (fun _ _ => rfl) rfl
theorem s_closes {CALL : CT} (hC : RuleAll CALL) {n : Nat} {h0 : Nat → Int} (hw : WF h0) {f : Nat} (hf : (f : Int) < h0 0) : ∀ (e r : Nat) {σ : AM} {K : AV → AM → Prop} {d u : Nat}, HRep σ n h0 → (u : Int) < h0 0 → 1 ≤ d → d + e ≤ 6 → σ.1 17 0 0 = Int32.ofInt (f : Nat) → σ.1 17 0 (d - 1) = Int32.ofInt (u : Nat) → (∀ σ2 : AM, Ch roS σ σ2 → (∀ j, j < d → σ2.1 17 0 j = σ.1 17 0 j) → (wk (nxS h0) (h0 0).toNat (e + 1) u f = true → ∀ i, i < e + 1 → σ2.1 17 0 (d - 1 + i) = Int32.ofInt (rp (nxS h0) (h0 0).toNat f i e u : Nat)) → K (.inl (bI (wk (nxS h0) (h0 0).toNat (e + 1) u f))) σ2) → CALL (r + e + 2) n_Talk_closes [.inr (.inr (16, 0)), .inr (.inr (23, n)), .inl (Int32.ofInt (d : Int)), .inl (Int32.ofInt ((d + e : Nat) : Int))] σ K := by
  intro e
  induction e with
  | zero =>
    intro r σ K d u hr hu hd hde g0 g1 h
    exact s_closes1 hC hr hw hu hf hd hde g0 g1 (fun nx σ1 K' h1 => by omega) h
  | succ e ih =>
    intro r σ K d u hr hu hd hde g0 g1 h
    refine s_closes1 hC hr hw hu hf hd hde g0 g1 (fun nx σ1 K' h1 h2 h3 h4 h5 h6 => ?_) h
    rw [show d + (e + 1) = d + 1 + e by omega]
    refine ih r h3 h2 (by omega) (by omega) h4 h5 (fun σ2 k1 k2 k3 => ?_)
    exact h6 σ2 k1 k2 k3
/-- the shortest ring: how long, where -/
def riL (g : Nat → Nat) (c : Nat) : Option (Nat × Nat) := firstG (fun m => (firstF (fun t => wk g c m t t) c 0).map (fun t => (m, t))) c 1
def riI : Option (Nat × Nat) → Int
  | none => -1
  | some (m, _) => m
theorem riL_no {g : Nat → Nat} {c : Nat} (h : riL g c = none) : ∀ l t, 1 ≤ l → l ≤ c → t < c → wk g c l t t = false := by
  intro l t h1 h2 h3
  have := firstG_no h l h1 (by omega)
  cases hf : firstF (fun t => wk g c l t t) c 0 with
  | none => rw [firstF_no] at hf; exact hf t (by omega) (by omega)
  | some x => rw [hf] at this; cases this
theorem riL_some {g : Nat → Nat} {c l f : Nat} (h : riL g c = some (l, f)) : 1 ≤ l ∧ l ≤ c ∧ f < c ∧ wk g c l f f = true ∧ (∀ t, t < f → wk g c l t t = false) ∧ ∀ l' t, 1 ≤ l' → l' < l → t < c → wk g c l' t t = false := by
  obtain ⟨m, h1, h2, h3, h4⟩ := firstG_ge h
  cases hf : firstF (fun t => wk g c m t t) c 0 with
  | none => rw [hf] at h3; cases h3
  | some x =>
    rw [hf] at h3
    cases h3
    have hg := firstF_ge hf
    refine ⟨h1, by omega, by omega, hg.2.2.1, fun t ht => hg.2.2.2 t (by omega) ht, fun l' t a1 a2 a3 => ?_⟩
    have := h4 l' a1 a2
    cases hf2 : firstF (fun t => wk g c l' t t) c 0 with
    | none => rw [firstF_no] at hf2; exact hf2 t (by omega) (by omega)
    | some x => rw [hf2] at this; cases this
theorem s_shortestRing {CALL : CT} (hC : RuleAll CALL) {r : Nat} {σ : AM} {K : AV → AM → Prop} {n : Nat} {h0 : Nat → Int} (hr : HRep σ n h0) (hw : WF h0) (h : ∀ σ' : AM, Ch roS σ σ' → (∀ l f, riL (nxS h0) (h0 0).toNat = some (l, f) → ∀ i, i < l → σ'.1 17 0 i = Int32.ofInt (rp (nxS h0) (h0 0).toNat f i (l - 1) f : Nat)) → K (.inl (Int32.ofInt (riI (riL (nxS h0) (h0 0).toNat)))) σ') : CALL (r + 9) n_Talk_shortestRing [.inr (.inr (16, 0)), .inr (.inr (23, n))] σ K := by
  refine r_Talk_shortestRing hC (fun J hJ => ?_)
  refine hJ _ _ _ _ ?_
  conv => whnf
  have b := hw.1
  have fr : ∀ σ1 : AM, Ch roS σ σ1 → HRep σ1 n h0 := by
    intro σ1 hc
    refine hr.fr (S := fun t i => i = 0 ∧ t = 17) (fun t i hn => ⟨?_, by rw [hc.2], by rw [hc.2]⟩) (fun t a b z => by omega)
    funext j
    exact hc.1 t i j (fun z => hn z)
  generalize hW : riL (nxS h0) (h0 0).toNat = W at h
  have inner : ∀ (q i m : Nat) (σ1 : AM), i + q = (h0 0).toNat → 1 ≤ m → m ≤ (h0 0).toNat → Ch roS σ σ1 → (∀ σ2 : AM, Ch roS σ σ2 → firstF (fun t => wk (nxS h0) (h0 0).toNat m t t) q i = none → J 45 [.inr (.inr (16, 0)), .inr (.inr (23, n)), .inl (Int32.ofInt (m : Int)), .inl (Int32.ofInt ((h0 0).toNat : Nat))] [] σ2) → (∀ (σ2 : AM) (f : Nat), Ch roS σ σ2 → firstF (fun t => wk (nxS h0) (h0 0).toNat m t t) q i = some f → (∀ i, i < m → σ2.1 17 0 i = Int32.ofInt (rp (nxS h0) (h0 0).toNat f i (m - 1) f : Nat)) → K (.inl (Int32.ofInt (m : Int))) σ2) → J 12 [.inr (.inr (16, 0)), .inr (.inr (23, n)), .inl (Int32.ofInt (m : Int)), .inl (Int32.ofInt (i : Int))] [] σ1 := by
    intro q
    induction q with
    | zero =>
      intro i m σ1 hi m1 m2 f1 hk1 hk2
      have : i = (h0 0).toNat := by omega
      subst this
      refine hJ _ _ _ _ ?_
      conv => whnf
      rw [(fr σ1 f1).1]
      refine ⟨fun c => ?_, fun c => ?_⟩ <;> (try simp (disch := omega) only [oi_le, oi_lt, oi_eq, oi_lt0, oi_le0, oi_0lt, oi_0le, oi_eq0, oi_eq1, bI_eq0, bI_ne0, bI_eq1, decide_eq_true_eq, decide_eq_false_iff_not, lc_lt, lc_gt, lc_eq, lc_ge, lc_le, ol_lt, ol_eq, ne_eq, Int.not_lt, Int.not_le, Bool.not_eq_true, Bool.not_eq_false, Decidable.not_not, not_true_eq_false, not_false_eq_true, Bool.true_eq_false, Bool.false_eq_true] at c) <;> (first | (exfalso; omega) | ((fail_if_success with_reducible refine hJ _ _ _ _ ?_); conv => whnf) | skip)
      exact hk1 σ1 f1 rfl
    | succ q ih =>
      intro i m σ1 hi m1 m2 f1 hk1 hk2
      rw [firstF] at hk1 hk2
      refine hJ _ _ _ _ ?_
      conv => whnf
      rw [(fr σ1 f1).1]
      refine ⟨fun c => ?_, fun c => ?_⟩ <;> (try simp (disch := omega) only [oi_le, oi_lt, oi_eq, oi_lt0, oi_le0, oi_0lt, oi_0le, oi_eq0, oi_eq1, bI_eq0, bI_ne0, bI_eq1, decide_eq_true_eq, decide_eq_false_iff_not, lc_lt, lc_gt, lc_eq, lc_ge, lc_le, ol_lt, ol_eq, ne_eq, Int.not_lt, Int.not_le, Bool.not_eq_true, Bool.not_eq_false, Decidable.not_not, not_true_eq_false, not_false_eq_true, Bool.true_eq_false, Bool.false_eq_true] at c) <;> (first | (exfalso; omega) | ((with_reducible refine hJ _ _ _ _ ?_); conv => whnf) | (conv => whnf))
      refine ⟨(oi_in (by omega) (by omega)).mpr ⟨by omega, by omega⟩, ?_⟩
      conv => whnf
      rw [show (Int32.ofInt 0).toNatClampNeg = 0 from rfl]
      have f1' : Ch roS σ (wI σ1 17 0 0 (Int32.ofInt (i : Int))) := f1.tr (Ch.wI ⟨rfl, rfl⟩)
      have f4' : (wI σ1 17 0 0 (Int32.ofInt (i : Int))).1 17 0 0 = Int32.ofInt (i : Nat) := by rw [wI1, if_pos ⟨rfl, rfl, rfl⟩]
      generalize wI σ1 17 0 0 (Int32.ofInt (i : Int)) = σ1' at f1' f4' ⊢
      have goal : ∀ K', (∀ σ2 : AM, Ch roS σ1' σ2 → (wk (nxS h0) (h0 0).toNat m i i = true → ∀ j, j < m → σ2.1 17 0 j = Int32.ofInt (rp (nxS h0) (h0 0).toNat i j (m - 1) i : Nat)) → K' (.inl (bI (wk (nxS h0) (h0 0).toNat m i i))) σ2) → CALL (r + 8) n_Talk_closes [.inr (.inr (16, 0)), .inr (.inr (23, n)), .inl (Int32.ofInt 1), .inl (Int32.ofInt (m : Int))] σ1' K' := by
        intro K' hK
        obtain ⟨e, rfl⟩ : ∃ e, m = e + 1 := ⟨m - 1, by omega⟩
        have := s_closes hC hw (f := i) (n := n) (by omega) e (r + 6 - e) (σ := σ1') (K := K') (d := 1) (u := i) (fr σ1' f1') (by omega) (by omega) (by omega) f4' f4' (fun σ2 k1 k2 k3 => hK σ2 k1 (fun z j hj => by
          have := k3 z j hj
          rw [show 1 - 1 + j = j by omega] at this
          exact this))
        rw [show r + 6 - e + e + 2 = r + 8 by omega, show 1 + e = e + 1 by omega] at this
        exact this
      refine goal _ (fun σ2 k1 k3 => ?_)
      conv => whnf
      refine ⟨fun c2 => ?_, fun c2 => ?_⟩ <;> (try simp (disch := omega) only [oi_le, oi_lt, oi_eq, oi_lt0, oi_le0, oi_0lt, oi_0le, oi_eq0, oi_eq1, bI_eq0, bI_ne0, bI_eq1, decide_eq_true_eq, decide_eq_false_iff_not, lc_lt, lc_gt, lc_eq, lc_ge, lc_le, ol_lt, ol_eq, ne_eq, Int.not_lt, Int.not_le, Bool.not_eq_true, Bool.not_eq_false, Decidable.not_not, not_true_eq_false, not_false_eq_true, Bool.true_eq_false, Bool.false_eq_true] at c2) <;> (first | (exfalso; omega) | ((with_reducible refine hJ _ _ _ _ ?_); conv => whnf) | (conv => whnf))
      · rw [oi_succ]
        rw [if_neg (by rw [c2]; decide)] at hk1 hk2
        exact ih (i + 1) m σ2 (by omega) m1 m2 (f1'.tr k1) hk1 hk2
      · rw [if_pos c2] at hk2
        exact hk2 σ2 i (f1'.tr k1) rfl (k3 c2)
  have outer : ∀ (q m : Nat) (x : AV) (σ1 : AM), m + q = (h0 0).toNat + 1 → 1 ≤ m → Ch roS σ σ1 → W = firstG (fun m => (firstF (fun t => wk (nxS h0) (h0 0).toNat m t t) (h0 0).toNat 0).map (fun t => (m, t))) q m → J 2 [.inr (.inr (16, 0)), .inr (.inr (23, n)), .inl (Int32.ofInt (m : Int)), x] [] σ1 := by
    intro q
    induction q with
    | zero =>
      intro m x σ1 hi m1 f1 g4
      refine hJ _ _ _ _ ?_
      conv => whnf
      rw [(fr σ1 f1).1]
      refine ⟨fun c => ?_, fun c => ?_⟩ <;> (try simp (disch := omega) only [oi_le, oi_lt, oi_eq, oi_lt0, oi_le0, oi_0lt, oi_0le, oi_eq0, oi_eq1, bI_eq0, bI_ne0, bI_eq1, decide_eq_true_eq, decide_eq_false_iff_not, lc_lt, lc_gt, lc_eq, lc_ge, lc_le, ol_lt, ol_eq, ne_eq, Int.not_lt, Int.not_le, Bool.not_eq_true, Bool.not_eq_false, Decidable.not_not, not_true_eq_false, not_false_eq_true, Bool.true_eq_false, Bool.false_eq_true] at c) <;> (first | (exfalso; omega) | ((with_reducible refine hJ _ _ _ _ ?_); conv => whnf) | (conv => whnf))
      have hh := h σ1 f1
      rw [g4] at hh
      exact hh (fun l f z => by cases z)
    | succ q ih =>
      intro m x σ1 hi m1 f1 g4
      rw [firstG] at g4
      refine hJ _ _ _ _ ?_
      conv => whnf
      rw [(fr σ1 f1).1]
      refine ⟨fun c => ?_, fun c => ?_⟩ <;> (try simp (disch := omega) only [oi_le, oi_lt, oi_eq, oi_lt0, oi_le0, oi_0lt, oi_0le, oi_eq0, oi_eq1, bI_eq0, bI_ne0, bI_eq1, decide_eq_true_eq, decide_eq_false_iff_not, lc_lt, lc_gt, lc_eq, lc_ge, lc_le, ol_lt, ol_eq, ne_eq, Int.not_lt, Int.not_le, Bool.not_eq_true, Bool.not_eq_false, Decidable.not_not, not_true_eq_false, not_false_eq_true, Bool.true_eq_false, Bool.false_eq_true] at c) <;> (first | (exfalso; omega) | ((with_reducible refine hJ _ _ _ _ ?_); conv => whnf) | (conv => whnf))
      refine inner (h0 0).toNat 0 m σ1 (by omega) m1 (by omega) f1 (fun σ2 k1 k2 => ?_) (fun σ2 f k1 k2 k3 => ?_)
      · rw [k2] at g4
        refine hJ _ _ _ _ ?_
        conv => whnf
        rw [oi_succ]
        exact ih (m + 1) _ σ2 (by omega) (by omega) k1 g4
      · rw [k2] at g4
        have g5 : W = some (m, f) := g4
        have hh := h σ2 k1
        rw [g5] at hh
        refine hh (fun l f' z => ?_)
        cases z
        exact k3
  exact outer (h0 0).toNat 1 _ σ (by omega) (by omega) Ch.rf hW.symm
