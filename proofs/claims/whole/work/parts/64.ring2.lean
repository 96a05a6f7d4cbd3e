/-! the reference's ring: how far -/
def nrF (g : Nat → Nat) (x : Nat → Nat) (t : Nat) : Nat → Nat
  | 0 => 1000000
  | i + 1 => if (g t).testBit i then min (nrF g x t i) (x i) else nrF g x t i
theorem nrF_bd (g x : Nat → Nat) (t : Nat) : ∀ i, nrF g x t i ≤ 1000000
  | 0 => Nat.le_refl _
  | i + 1 => by
    have := nrF_bd g x t i
    rw [nrF]
    split <;> omega
theorem nrF_le {g x : Nat → Nat} {t : Nat} : ∀ {i k : Nat}, k < i → (g t).testBit k = true → nrF g x t i ≤ x k
  | 0, k, h, _ => by omega
  | i + 1, k, h, hb => by
    rw [nrF]
    by_cases e : k = i
    · subst e
      rw [if_pos hb]
      omega
    · have := nrF_le (x := x) (i := i) (k := k) (by omega) hb
      split <;> omega
theorem nrF_ex {g x : Nat → Nat} {t : Nat} : ∀ {i : Nat}, nrF g x t i < 1000000 → ∃ k, k < i ∧ (g t).testBit k = true ∧ nrF g x t i = x k
  | 0, h => by rw [nrF] at h; omega
  | i + 1, h => by
    rw [nrF] at h ⊢
    by_cases hb : (g t).testBit i = true
    · rw [if_pos hb] at h ⊢
      by_cases e : x i ≤ nrF g x t i
      · exact ⟨i, by omega, hb, by omega⟩
      · obtain ⟨k, h1, h2, h3⟩ := nrF_ex (g := g) (x := x) (t := t) (i := i) (by omega)
        exact ⟨k, by omega, h2, by omega⟩
    · rw [if_neg hb] at h ⊢
      obtain ⟨k, h1, h2, h3⟩ := nrF_ex h
      exact ⟨k, by omega, h2, h3⟩
def XR (σ : AM) (x : Nat → Nat) : Prop := ∀ t, t < 6 → σ.1 59 0 t = Int32.ofInt (x t : Nat) ∧ x t ≤ 1000000
theorem s_m_nearest {CALL : CT} (hC : RuleAll CALL) {r : Nat} {σ : AM} {K : AV → AM → Prop} {t : Nat} {h0 : Nat → Int} {x : Nat → Nat} (hm : M0 σ h0) (hw : WF h0) (ht : (t : Int) < h0 0) (hx : XR σ x) (h : K (.inl (Int32.ofInt (nrF (nxS h0) x t (h0 0).toNat : Nat))) σ) : CALL (r + 3) n_m_nearest [.inr (.inr (46, 0)), .inl (Int32.ofInt t)] σ K := by
  refine r_m_nearest hC (fun J hJ => ?_)
  refine hJ _ _ _ _ ?_
  conv => whnf
  have b := hw.1
  have hnl := nxS_lt hw ht
  have loop : ∀ (q i : Nat), i + q = (h0 0).toNat → J 6 [.inr (.inr (46, 0)), .inl (Int32.ofInt t), .inl (Int32.ofInt (nrF (nxS h0) x t i : Nat)), .inl (Int32.ofInt (i : Int))] [] σ := by
    intro q
    induction q with
    | zero =>
      intro i hi
      have : i = (h0 0).toNat := by omega
      subst this
      refine hJ _ _ _ _ ?_
      conv => whnf
      refine ⟨(oi_in (by omega) (by omega)).mpr ⟨by omega, by omega⟩, ?_⟩
      conv => whnf
      rw [show (Int32.ofInt 0).toNatClampNeg = 0 from rfl, hm 0 (by omega)]
      refine ⟨fun c => ?_, fun c => ?_⟩ <;> (try simp (disch := omega) only [oi_le, oi_lt, oi_eq, oi_lt0, oi_le0, oi_0lt, oi_0le, oi_eq0, oi_eq1, bI_eq0, bI_ne0, bI_eq1, decide_eq_true_eq, decide_eq_false_iff_not, lc_lt, lc_gt, lc_eq, lc_ge, lc_le, ol_lt, ol_eq, ne_eq, Int.not_lt, Int.not_le, Bool.not_eq_true, Bool.not_eq_false, Decidable.not_not, not_true_eq_false, not_false_eq_true, Bool.true_eq_false, Bool.false_eq_true] at c) <;> (first | (exfalso; omega) | ((with_reducible refine hJ _ _ _ _ ?_); conv => whnf) | (conv => whnf))
      exact h
    | succ q ih =>
      intro i hi
      have nx := ih (i + 1) (by omega)
      have nb := nrF_bd (nxS h0) x t i
      have xb := hx i (by omega)
      rw [nrF] at nx
      refine hJ _ _ _ _ ?_
      conv => whnf
      refine ⟨(oi_in (by omega) (by omega)).mpr ⟨by omega, by omega⟩, ?_⟩
      conv => whnf
      rw [show (Int32.ofInt 0).toNatClampNeg = 0 from rfl, hm 0 (by omega)]
      refine ⟨fun c => ?_, fun c => ?_⟩ <;> (try simp (disch := omega) only [oi_le, oi_lt, oi_eq, oi_lt0, oi_le0, oi_0lt, oi_0le, oi_eq0, oi_eq1, bI_eq0, bI_ne0, bI_eq1, decide_eq_true_eq, decide_eq_false_iff_not, lc_lt, lc_gt, lc_eq, lc_ge, lc_le, ol_lt, ol_eq, ne_eq, Int.not_lt, Int.not_le, Bool.not_eq_true, Bool.not_eq_false, Decidable.not_not, not_true_eq_false, not_false_eq_true, Bool.true_eq_false, Bool.false_eq_true] at c) <;> (first | (exfalso; omega) | ((with_reducible refine hJ _ _ _ _ ?_); conv => whnf) | (conv => whnf))
      refine s_m_nextOf hC hm (by omega) ?_
      conv => whnf
      rw [hnl.2]
      refine s_m_isIn hC (by omega) (by omega) ?_
      conv => whnf
      refine ⟨fun c2 => ?_, fun c2 => ?_⟩ <;> (try simp (disch := omega) only [oi_le, oi_lt, oi_eq, oi_lt0, oi_le0, oi_0lt, oi_0le, oi_eq0, oi_eq1, bI_eq0, bI_ne0, bI_eq1, decide_eq_true_eq, decide_eq_false_iff_not, lc_lt, lc_gt, lc_eq, lc_ge, lc_le, ol_lt, ol_eq, ne_eq, Int.not_lt, Int.not_le, Bool.not_eq_true, Bool.not_eq_false, Decidable.not_not, not_true_eq_false, not_false_eq_true, Bool.true_eq_false, Bool.false_eq_true] at c2) <;> (first | (exfalso; omega) | ((with_reducible refine hJ _ _ _ _ ?_); conv => whnf) | (conv => whnf))
      · rw [oi_succ]
        rw [if_neg (by rw [c2]; decide)] at nx
        exact nx
      · refine ⟨(oi_in (by omega) (by omega)).mpr ⟨by omega, by omega⟩, ?_⟩
        conv => whnf
        rw [oi_nat (by omega) (by omega), Int.toNat_natCast, xb.1]
        refine s_minI hC (by omega) (by omega) (by omega) (by omega) ?_
        conv => whnf
        refine hJ _ _ _ _ ?_
        conv => whnf
        rw [oi_succ]
        rw [if_pos c2, show ((min (nrF (nxS h0) x t i) (x i) : Nat) : Int) = min ((nrF (nxS h0) x t i : Nat) : Int) ((x i : Nat) : Int) by omega] at nx
        exact nx
  exact loop (h0 0).toNat 0 (by omega)
def faS (t i _j : Nat) : Prop := i = 0 ∧ t = 59
/-- a way of that length is there -/
def FA (g : Nat → Nat) (c f : Nat) (x : Nat → Nat) : Prop := ∀ t, t < c → x t < 1000000 → wk g c (x t) t f = true
/-- no way of at most that length is shorter -/
def FB (g : Nat → Nat) (c f : Nat) (x : Nat → Nat) (n t : Nat) : Prop := ∀ k, k ≤ n → wk g c k t f = true → x t ≤ k
def upX (x : Nat → Nat) (t v : Nat) : Nat → Nat := fun t' => if t' = t then min (x t) (1 + v) else x t'
theorem upX_FA {g x : Nat → Nat} {c f t : Nat} (h : FA g c f x) (ht : t < c) : FA g c f (upX x t (nrF g x t c)) := by
  intro t' h1 h2
  unfold upX at h2 ⊢
  by_cases e : t' = t
  · subst e
    rw [if_pos rfl] at h2 ⊢
    by_cases e2 : x t' ≤ 1 + nrF g x t' c
    · rw [show min (x t') (1 + nrF g x t' c) = x t' by omega] at h2 ⊢
      exact h t' h1 h2
    · rw [show min (x t') (1 + nrF g x t' c) = 1 + nrF g x t' c by omega] at h2 ⊢
      obtain ⟨k, k1, k2, k3⟩ := nrF_ex (g := g) (x := x) (t := t') (i := c) (by omega)
      rw [Nat.add_comm]
      refine wk_s.mpr ⟨k, k1, k2, ?_⟩
      rw [k3]
      exact h k k1 (by omega)
  · rw [if_neg e] at h2 ⊢
    exact h t' h1 h2
theorem upX_le {x : Nat → Nat} {t v t' : Nat} : upX x t v t' ≤ x t' := by
  unfold upX
  by_cases e : t' = t
  · subst e; rw [if_pos rfl]; omega
  · rw [if_neg e]; exact Nat.le_refl _
theorem FB.mo {g x y : Nat → Nat} {c f n t : Nat} (h : FB g c f x n t) (hy : y t ≤ x t) : FB g c f y n t := fun k h1 h2 => Nat.le_trans hy (h k h1 h2)
theorem upX_FB {g x : Nat → Nat} {c f n t : Nat} (h : ∀ t', t' < c → FB g c f x n t') (ht : t < c) : FB g c f (upX x t (nrF g x t c)) (n + 1) t := by
  intro k h1 h2
  by_cases e : k ≤ n
  · exact Nat.le_trans upX_le (h t ht k e h2)
  · obtain ⟨k, rfl⟩ : ∃ j, k = j + 1 := ⟨k - 1, by omega⟩
    obtain ⟨m, m1, m2, m3⟩ := wk_s.mp h2
    have h3 := h m m1 k (by omega) m3
    have h4 := nrF_le (x := x) (i := c) m1 m2
    unfold upX
    rw [if_pos rfl]
    omega
theorem s_m_laysFar {CALL : CT} (hC : RuleAll CALL) {r : Nat} {σ : AM} {K : AV → AM → Prop} {f : Nat} {h0 : Nat → Int} (hm : M0 σ h0) (hw : WF h0) (hf : (f : Int) < h0 0) (h : ∀ (σ' : AM) (x : Nat → Nat), Ch faS σ σ' → XR σ' x → FA (nxS h0) (h0 0).toNat f x → (∀ t, t < (h0 0).toNat → FB (nxS h0) (h0 0).toNat f x 6 t) → K unset σ') : CALL (r + 4) n_m_laysFar [.inr (.inr (46, 0)), .inl (Int32.ofInt f)] σ K := by
  refine r_m_laysFar hC (fun J hJ => ?_)
  refine hJ _ _ _ _ ?_
  conv => whnf
  have b := hw.1
  have m0 : ∀ σ1 : AM, Ch faS σ σ1 → M0 σ1 h0 := fun σ1 hc => hm.ch hc (fun j hj => by unfold faS; omega)
  have inner : ∀ (q t n : Nat) (x : Nat → Nat) (σ1 : AM), t + q = (h0 0).toNat → n < 6 → Ch faS σ σ1 → XR σ1 x → FA (nxS h0) (h0 0).toNat f x → (∀ t', t' < (h0 0).toNat → FB (nxS h0) (h0 0).toNat f x n t') → (∀ t', t' < t → FB (nxS h0) (h0 0).toNat f x (n + 1) t') → (∀ (x' : Nat → Nat) (σ2 : AM) (y : AV), Ch faS σ σ2 → XR σ2 x' → FA (nxS h0) (h0 0).toNat f x' → (∀ t', t' < (h0 0).toNat → FB (nxS h0) (h0 0).toNat f x' (n + 1) t') → J 80 [.inr (.inr (46, 0)), .inl (Int32.ofInt f), .inl (Int32.ofInt (n : Int)), y] [] σ2) → J 42 [.inr (.inr (46, 0)), .inl (Int32.ofInt f), .inl (Int32.ofInt (n : Int)), .inl (Int32.ofInt (t : Int))] [] σ1 := by
    intro q
    induction q with
    | zero =>
      intro t n x σ1 hi hn f1 f2 f3 f4 f5 hk
      refine hJ _ _ _ _ ?_
      conv => whnf
      refine ⟨(oi_in (by omega) (by omega)).mpr ⟨by omega, by omega⟩, ?_⟩
      conv => whnf
      rw [show (Int32.ofInt 0).toNatClampNeg = 0 from rfl, (m0 σ1 f1) 0 (by omega)]
      refine ⟨fun c => ?_, fun c => ?_⟩ <;> (try simp (disch := omega) only [oi_le, oi_lt, oi_eq, oi_lt0, oi_le0, oi_0lt, oi_0le, oi_eq0, oi_eq1, bI_eq0, bI_ne0, bI_eq1, decide_eq_true_eq, decide_eq_false_iff_not, lc_lt, lc_gt, lc_eq, lc_ge, lc_le, ol_lt, ol_eq, ne_eq, Int.not_lt, Int.not_le, Bool.not_eq_true, Bool.not_eq_false, Decidable.not_not, not_true_eq_false, not_false_eq_true, Bool.true_eq_false, Bool.false_eq_true] at c) <;> (first | (exfalso; omega) | ((fail_if_success with_reducible refine hJ _ _ _ _ ?_); conv => whnf) | skip)
      exact hk x σ1 _ f1 f2 f3 (fun t' ht' => f5 t' (by omega))
    | succ q ih =>
      intro t n x σ1 hi hn f1 f2 f3 f4 f5 hk
      have xb := f2 t (by omega)
      have nb := nrF_bd (nxS h0) x t (h0 0).toNat
      refine hJ _ _ _ _ ?_
      conv => whnf
      refine ⟨(oi_in (by omega) (by omega)).mpr ⟨by omega, by omega⟩, ?_⟩
      conv => whnf
      rw [show (Int32.ofInt 0).toNatClampNeg = 0 from rfl, (m0 σ1 f1) 0 (by omega)]
      refine ⟨fun c => ?_, fun c => ?_⟩ <;> (try simp (disch := omega) only [oi_le, oi_lt, oi_eq, oi_lt0, oi_le0, oi_0lt, oi_0le, oi_eq0, oi_eq1, bI_eq0, bI_ne0, bI_eq1, decide_eq_true_eq, decide_eq_false_iff_not, lc_lt, lc_gt, lc_eq, lc_ge, lc_le, ol_lt, ol_eq, ne_eq, Int.not_lt, Int.not_le, Bool.not_eq_true, Bool.not_eq_false, Decidable.not_not, not_true_eq_false, not_false_eq_true, Bool.true_eq_false, Bool.false_eq_true] at c) <;> (first | (exfalso; omega) | ((with_reducible refine hJ _ _ _ _ ?_); conv => whnf) | (conv => whnf))
      refine ⟨(oi_in (by omega) (by omega)).mpr ⟨by omega, by omega⟩, ?_⟩
      conv => whnf
      rw [oi_nat (by omega) (by omega), Int.toNat_natCast, xb.1]
      refine s_m_nearest hC (m0 σ1 f1) hw (by omega) f2 ?_
      conv => whnf
      rw [oi_add]
      refine s_minI hC (by omega) (by omega) (by omega) (by omega) ?_
      conv => whnf
      refine ⟨(oi_in (by omega) (by omega)).mpr ⟨by omega, by omega⟩, ?_⟩
      conv => whnf
      rw [oi_nat (by omega) (by omega), Int.toNat_natCast, oi_succ]
      refine ih (t + 1) n (upX x t (nrF (nxS h0) x t (h0 0).toNat)) _ (by omega) hn (f1.tr (Ch.wI ⟨rfl, rfl⟩)) (fun t' ht' => ?_) (upX_FA f3 (by omega)) (fun t' ht' => (f4 t' ht').mo upX_le) (fun t' ht' => ?_) hk
      · rw [wI1]
        unfold upX
        by_cases e : t' = t
        · subst e
          rw [if_pos ⟨rfl, rfl, rfl⟩, if_pos rfl]
          refine ⟨?_, by omega⟩
          congr 1
          omega
        · rw [if_neg (by omega), if_neg e]
          exact f2 t' ht'
      · by_cases e : t' = t
        · subst e
          exact upX_FB f4 (by omega)
        · exact (f5 t' (by omega)).mo upX_le
  have outer : ∀ (q n : Nat) (x : Nat → Nat) (σ1 : AM) (y : AV), n + q = 6 → Ch faS σ σ1 → XR σ1 x → FA (nxS h0) (h0 0).toNat f x → (∀ t', t' < (h0 0).toNat → FB (nxS h0) (h0 0).toNat f x n t') → J 34 [.inr (.inr (46, 0)), .inl (Int32.ofInt f), .inl (Int32.ofInt (n : Int)), y] [] σ1 := by
    intro q
    induction q with
    | zero =>
      intro n x σ1 y hi f1 f2 f3 f4
      have : n = 6 := by omega
      subst this
      refine hJ _ _ _ _ ?_
      conv => whnf
      refine ⟨fun c => ?_, fun c => ?_⟩ <;> (try simp (disch := omega) only [oi_le, oi_lt, oi_eq, oi_lt0, oi_le0, oi_0lt, oi_0le, oi_eq0, oi_eq1, bI_eq0, bI_ne0, bI_eq1, decide_eq_true_eq, decide_eq_false_iff_not, lc_lt, lc_gt, lc_eq, lc_ge, lc_le, ol_lt, ol_eq, ne_eq, Int.not_lt, Int.not_le, Bool.not_eq_true, Bool.not_eq_false, Decidable.not_not, not_true_eq_false, not_false_eq_true, Bool.true_eq_false, Bool.false_eq_true] at c) <;> (first | (exfalso; omega) | ((with_reducible refine hJ _ _ _ _ ?_); conv => whnf) | (conv => whnf))
      exact h σ1 x f1 f2 f3 f4
    | succ q ih =>
      intro n x σ1 y hi f1 f2 f3 f4
      refine hJ _ _ _ _ ?_
      conv => whnf
      refine ⟨fun c => ?_, fun c => ?_⟩ <;> (try simp (disch := omega) only [oi_le, oi_lt, oi_eq, oi_lt0, oi_le0, oi_0lt, oi_0le, oi_eq0, oi_eq1, bI_eq0, bI_ne0, bI_eq1, decide_eq_true_eq, decide_eq_false_iff_not, lc_lt, lc_gt, lc_eq, lc_ge, lc_le, ol_lt, ol_eq, ne_eq, Int.not_lt, Int.not_le, Bool.not_eq_true, Bool.not_eq_false, Decidable.not_not, not_true_eq_false, not_false_eq_true, Bool.true_eq_false, Bool.false_eq_true] at c) <;> (first | (exfalso; omega) | ((with_reducible refine hJ _ _ _ _ ?_); conv => whnf) | (conv => whnf))
      refine inner (h0 0).toNat 0 n x σ1 (by omega) (by omega) f1 f2 f3 f4 (fun t' ht' => by omega) (fun x' σ2 y' k1 k2 k3 k4 => ?_)
      refine hJ _ _ _ _ ?_
      conv => whnf
      rw [oi_succ]
      exact ih (n + 1) x' σ2 _ (by omega) k1 k2 k3 k4
  have init : ∀ (q i : Nat) (σ1 : AM), i + q = 6 → Ch faS σ σ1 → (∀ t, t < i → σ1.1 59 0 t = Int32.ofInt (((if t = f then 0 else 1000000 : Nat)) : Int)) → J 2 [.inr (.inr (46, 0)), .inl (Int32.ofInt f), .inl (Int32.ofInt (i : Int)), unset] [] σ1 := by
    intro q
    induction q with
    | zero =>
      intro i σ1 hi f1 f2
      have : i = 6 := by omega
      subst this
      refine hJ _ _ _ _ ?_
      conv => whnf
      refine ⟨fun c => ?_, fun c => ?_⟩ <;> (try simp (disch := omega) only [oi_le, oi_lt, oi_eq, oi_lt0, oi_le0, oi_0lt, oi_0le, oi_eq0, oi_eq1, bI_eq0, bI_ne0, bI_eq1, decide_eq_true_eq, decide_eq_false_iff_not, lc_lt, lc_gt, lc_eq, lc_ge, lc_le, ol_lt, ol_eq, ne_eq, Int.not_lt, Int.not_le, Bool.not_eq_true, Bool.not_eq_false, Decidable.not_not, not_true_eq_false, not_false_eq_true, Bool.true_eq_false, Bool.false_eq_true] at c) <;> (first | (exfalso; omega) | ((with_reducible refine hJ _ _ _ _ ?_); conv => whnf) | (conv => whnf))
      refine outer 6 0 (fun t => if t = f then 0 else 1000000) σ1 _ (by omega) f1 (fun t ht => ⟨f2 t ht, ?_⟩) (fun t ht hx => ?_) (fun t ht k hk hw => ?_)
      · dsimp only
        split <;> omega
      · dsimp only at hx ⊢
        by_cases e : t = f
        · rw [if_pos e, e]
          simp [wk]
        · rw [if_neg e] at hx
          omega
      · have : k = 0 := by omega
        subst this
        have e : t = f := by simpa [wk] using hw
        dsimp only
        rw [if_pos e]
        exact Nat.le_refl 0
    | succ q ih =>
      intro i σ1 hi f1 f2
      have nx : ∀ v : Int, v = ((if i = f then 0 else 1000000 : Nat) : Int) → J 25 [.inr (.inr (46, 0)), .inl (Int32.ofInt f), .inl (Int32.ofInt (i : Int)), unset] [.inl (Int32.ofInt v), .inl (Int32.ofInt (i : Int)), .inr (.inr (59, 0))] σ1 := by
        intro v hv
        refine hJ _ _ _ _ ?_
        conv => whnf
        refine ⟨(oi_in (by omega) (by omega)).mpr ⟨by omega, by omega⟩, ?_⟩
        conv => whnf
        rw [oi_nat (by omega) (by omega), Int.toNat_natCast, oi_succ]
        refine ih (i + 1) _ (by omega) (f1.tr (Ch.wI ⟨rfl, rfl⟩)) (fun t ht => ?_)
        rw [wI1]
        by_cases e : t = i
        · subst e
          rw [if_pos ⟨rfl, rfl, rfl⟩, hv]
        · rw [if_neg (by omega)]
          exact f2 t (by omega)
      refine hJ _ _ _ _ ?_
      conv => whnf
      refine ⟨fun c => ?_, fun c => ?_⟩ <;> (try simp (disch := omega) only [oi_le, oi_lt, oi_eq, oi_lt0, oi_le0, oi_0lt, oi_0le, oi_eq0, oi_eq1, bI_eq0, bI_ne0, bI_eq1, decide_eq_true_eq, decide_eq_false_iff_not, lc_lt, lc_gt, lc_eq, lc_ge, lc_le, ol_lt, ol_eq, ne_eq, Int.not_lt, Int.not_le, Bool.not_eq_true, Bool.not_eq_false, Decidable.not_not, not_true_eq_false, not_false_eq_true, Bool.true_eq_false, Bool.false_eq_true] at c) <;> (first | (exfalso; omega) | ((with_reducible refine hJ _ _ _ _ ?_); conv => whnf) | (conv => whnf))
      by_cases e : i = f
      · subst e
        refine ⟨fun c2 => ?_, fun c2 => ?_⟩ <;> (try simp (disch := omega) only [oi_le, oi_lt, oi_eq, oi_lt0, oi_le0, oi_0lt, oi_0le, oi_eq0, oi_eq1, bI_eq0, bI_ne0, bI_eq1, decide_eq_true_eq, decide_eq_false_iff_not, lc_lt, lc_gt, lc_eq, lc_ge, lc_le, ol_lt, ol_eq, ne_eq, Int.not_lt, Int.not_le, Bool.not_eq_true, Bool.not_eq_false, Decidable.not_not, not_true_eq_false, not_false_eq_true, Bool.true_eq_false, Bool.false_eq_true] at c2) <;> (first | (exfalso; omega) | ((with_reducible refine hJ _ _ _ _ ?_); conv => whnf) | (conv => whnf))
        exact nx 0 (by rw [if_pos rfl]; rfl)
      · refine ⟨fun c2 => ?_, fun c2 => ?_⟩ <;> (try simp (disch := omega) only [oi_le, oi_lt, oi_eq, oi_lt0, oi_le0, oi_0lt, oi_0le, oi_eq0, oi_eq1, bI_eq0, bI_ne0, bI_eq1, decide_eq_true_eq, decide_eq_false_iff_not, lc_lt, lc_gt, lc_eq, lc_ge, lc_le, ol_lt, ol_eq, ne_eq, Int.not_lt, Int.not_le, Bool.not_eq_true, Bool.not_eq_false, Decidable.not_not, not_true_eq_false, not_false_eq_true, Bool.true_eq_false, Bool.false_eq_true] at c2) <;> (first | (exfalso; omega) | ((with_reducible refine hJ _ _ _ _ ?_); conv => whnf) | (conv => whnf))
        exact nx 1000000 (by rw [if_neg e]; rfl)
  exact init 6 0 σ (by omega) Ch.rf (fun t ht => by omega)
