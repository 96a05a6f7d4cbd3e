theorem rp_s (g : Nat → Nat) (c f : Nat) : ∀ (i e u : Nat), wk g c (e + 1) u f = true → i ≤ e → u < c → wk g c (e + 1 - i) (rp g c f i e u) f = true ∧ wk g c i u (rp g c f i e u) = true ∧ rp g c f i e u < c ∧ (i < e → ∃ n, rn g c f (e - i) (rp g c f i e u) = some n ∧ rp g c f (i + 1) e u = n)
  | 0, e, u, h, hi, hu => by
    refine ⟨h, by simp [wk, rp], hu, fun _ => ?_⟩
    obtain ⟨n, n1, n2, n3⟩ := wk_s.mp h
    show ∃ n, rn g c f e u = some n ∧ _
    cases hf : rn g c f e u with
    | some m =>
      refine ⟨m, rfl, ?_⟩
      show (match rn g c f e u with | some n => rp g c f 0 (e - 1) n | none => u) = m
      rw [hf]
      rfl
    | none =>
      unfold rn at hf
      rw [firstF_no] at hf
      have := hf n (by omega) (by omega)
      rw [n2, n3] at this
      cases this
  | i + 1, e, u, h, hi, hu => by
    obtain ⟨-, -, -, h4⟩ := rp_s g c f 0 e u h (by omega) hu
    obtain ⟨n, n1, n2⟩ := h4 (by omega)
    have n1' : rn g c f e u = some n := n1
    have hg := firstF_ge n1'
    simp only [Bool.and_eq_true] at hg
    have hn : wk g c (e - 1 + 1) n f = true := by
      rw [show e - 1 + 1 = e by omega]
      exact hg.2.2.1.2
    obtain ⟨k1, k2, k3, k4⟩ := rp_s g c f i (e - 1) n hn (by omega) (by omega)
    have er : ∀ j, rp g c f (j + 1) e u = rp g c f j (e - 1) n := by
      intro j
      rw [rp, n1']
    rw [er i, er (i + 1)]
    refine ⟨?_, ?_, k3, fun hl => ?_⟩
    · rw [show e + 1 - (i + 1) = e - 1 + 1 - i by omega]
      exact k1
    · exact wk_s.mpr ⟨n, by omega, hg.2.2.1.1, k2⟩
    · rw [show e - (i + 1) = e - 1 - i by omega]
      exact k4 (by omega)
/-- what the reference has of the shortest ring, over the topics tried -/
def RI (g : Nat → Nat) (c t L F : Nat) : Prop := L ≤ 1000000 ∧ (L < 1000000 → F < t ∧ 1 ≤ L ∧ wk g c L F F = true ∧ ∀ t' k, t' < F → 1 ≤ k → k ≤ 7 → wk g c k t' t' = true → L < k) ∧ ∀ t' k, t' < t → 1 ≤ k → k ≤ 7 → wk g c k t' t' = true → L ≤ k
theorem RI_end {g : Nat → Nat} {c L F : Nat} (hc : c ≤ 6) (h : RI g c c L F) : (riL g c = none → L = 1000000) ∧ ∀ l f, riL g c = some (l, f) → L = l ∧ F = f := by
  obtain ⟨h1, h2, h3⟩ := h
  constructor
  · intro hn
    by_cases e : L = 1000000
    · exact e
    · obtain ⟨a1, a2, a3, -⟩ := h2 (by omega)
      obtain ⟨l, m, b1, b2, -, b4, b5⟩ := ring_short a1 a2 a3
      rw [riL_no hn l m b1 b2 b4] at b5
      cases b5
  · intro l f hs
    obtain ⟨b1, b2, b3, b4, b5, b6⟩ := riL_some hs
    have hl := h3 f l b3 b1 (by omega) b4
    obtain ⟨a1, a2, a3, a4⟩ := h2 (by omega)
    have e : L = l := by
      by_cases hlt : L < l
      · rw [b6 L F a2 hlt a1] at a3
        cases a3
      · omega
    subst e
    refine ⟨rfl, ?_⟩
    by_cases e1 : F < f
    · rw [b5 F e1] at a3; cases a3
    · by_cases e2 : f < F
      · have := a4 f L e2 b1 (by omega) b4
        omega
      · omega
def rgS (t i j : Nat) : Prop := i = 0 ∧ (t = 59 ∨ (t = 46 ∧ (j = 33 ∨ j = 34)))
theorem rgS_k : ∀ t i j, rgS t i j → ¬ keepI t i j := by
  intro t i j h
  unfold rgS at h
  unfold keepI
  omega
theorem faS_r {σ σ' : AM} (h : Ch faS σ σ') : Ch rgS σ σ' := h.mo (fun t i j q => ⟨q.1, Or.inl q.2⟩)
theorem s_m_laysRing {CALL : CT} (hC : RuleAll CALL) {r : Nat} {σ : AM} {K : AV → AM → Prop} {h0 : Nat → Int} (hm : M0 σ h0) (hw : WF h0) (h : ∀ (σ' : AM) (L F : Nat), Ch rgS σ σ' → RI (nxS h0) (h0 0).toNat (h0 0).toNat L F → σ'.1 46 0 34 = Int32.ofInt (L : Nat) → (L < 1000000 → σ'.1 46 0 33 = Int32.ofInt (F : Nat)) → K unset σ') : CALL (r + 5) n_m_laysRing [.inr (.inr (46, 0))] σ K := by
  refine r_m_laysRing hC (fun J hJ => ?_)
  refine hJ _ _ _ _ ?_
  conv => whnf
  have b := hw.1
  have m0 : ∀ σ1 : AM, Ch rgS σ σ1 → M0 σ1 h0 := fun σ1 hc => hm.ch hc (fun j hj => by unfold rgS; omega)
  have loop : ∀ (q t L F : Nat) (y : AV) (σ1 : AM), t + q = (h0 0).toNat → Ch rgS σ σ1 → RI (nxS h0) (h0 0).toNat t L F → σ1.1 46 0 34 = Int32.ofInt (L : Nat) → (L < 1000000 → σ1.1 46 0 33 = Int32.ofInt (F : Nat)) → J 9 [.inr (.inr (46, 0)), .inl (Int32.ofInt (t : Int)), y] [] σ1 := by
    intro q
    induction q with
    | zero =>
      intro t L F y σ1 hi f1 f2 f3 f4
      have : t = (h0 0).toNat := by omega
      subst this
      refine hJ _ _ _ _ ?_
      conv => whnf
      refine ⟨(oi_in (by omega) (by omega)).mpr ⟨by omega, by omega⟩, ?_⟩
      conv => whnf
      rw [show (Int32.ofInt 0).toNatClampNeg = 0 from rfl, (m0 σ1 f1) 0 (by omega)]
      refine ⟨fun c => ?_, fun c => ?_⟩ <;> (try simp (disch := omega) only [oi_le, oi_lt, oi_eq, oi_lt0, oi_le0, oi_0lt, oi_0le, oi_eq0, oi_eq1, bI_eq0, bI_ne0, bI_eq1, decide_eq_true_eq, decide_eq_false_iff_not, lc_lt, lc_gt, lc_eq, lc_ge, lc_le, ol_lt, ol_eq, ne_eq, Int.not_lt, Int.not_le, Bool.not_eq_true, Bool.not_eq_false, Decidable.not_not, not_true_eq_false, not_false_eq_true, Bool.true_eq_false, Bool.false_eq_true] at c) <;> (first | (exfalso; omega) | ((with_reducible refine hJ _ _ _ _ ?_); conv => whnf) | (conv => whnf))
      exact h σ1 L F f1 f2 f3 f4
    | succ q ih =>
      intro t L F y σ1 hi f1 f2 f3 f4
      refine hJ _ _ _ _ ?_
      conv => whnf
      refine ⟨(oi_in (by omega) (by omega)).mpr ⟨by omega, by omega⟩, ?_⟩
      conv => whnf
      rw [show (Int32.ofInt 0).toNatClampNeg = 0 from rfl, (m0 σ1 f1) 0 (by omega)]
      refine ⟨fun c => ?_, fun c => ?_⟩ <;> (try simp (disch := omega) only [oi_le, oi_lt, oi_eq, oi_lt0, oi_le0, oi_0lt, oi_0le, oi_eq0, oi_eq1, bI_eq0, bI_ne0, bI_eq1, decide_eq_true_eq, decide_eq_false_iff_not, lc_lt, lc_gt, lc_eq, lc_ge, lc_le, ol_lt, ol_eq, ne_eq, Int.not_lt, Int.not_le, Bool.not_eq_true, Bool.not_eq_false, Decidable.not_not, not_true_eq_false, not_false_eq_true, Bool.true_eq_false, Bool.false_eq_true] at c) <;> (first | (exfalso; omega) | ((with_reducible refine hJ _ _ _ _ ?_); conv => whnf) | (conv => whnf))
      refine s_m_laysFar hC (m0 σ1 f1) hw (by omega) ?_
      intro σ2 x k1 k2 k3 k4
      have f1' := f1.tr (faS_r k1)
      have nb := nrF_bd (nxS h0) x t (h0 0).toNat
      have e34 : σ2.1 46 0 34 = Int32.ofInt (L : Nat) := (k1.1 46 0 34 (by unfold faS; omega)).trans f3
      have e33 : L < 1000000 → σ2.1 46 0 33 = Int32.ofInt (F : Nat) := fun z => (k1.1 46 0 33 (by unfold faS; omega)).trans (f4 z)
      conv => whnf
      refine s_m_nearest hC (m0 σ2 f1') hw (by omega) k2 ?_
      conv => whnf
      rw [oi_add, show (1 : Int) + ((nrF (nxS h0) x t (h0 0).toNat : Nat) : Int) = ((1 + nrF (nxS h0) x t (h0 0).toNat : Nat) : Int) by omega, e34]
      have lb := f2.1
      have v1 : nrF (nxS h0) x t (h0 0).toNat < 1000000 → wk (nxS h0) (h0 0).toNat (1 + nrF (nxS h0) x t (h0 0).toNat) t t = true := by
        intro hv
        obtain ⟨k, a1, a2, a3⟩ := nrF_ex hv
        rw [Nat.add_comm]
        refine wk_s.mpr ⟨k, a1, a2, ?_⟩
        rw [a3]
        exact k3 k a1 (by omega)
      have v2 : ∀ k, 1 ≤ k → k ≤ 7 → wk (nxS h0) (h0 0).toNat k t t = true → 1 + nrF (nxS h0) x t (h0 0).toNat ≤ k := by
        intro k a1 a2 a3
        obtain ⟨k, rfl⟩ : ∃ j, k = j + 1 := ⟨k - 1, by omega⟩
        obtain ⟨m, m1, m2, m3⟩ := wk_s.mp a3
        have := k4 m m1 k (by omega) m3
        have := nrF_le (x := x) (i := (h0 0).toNat) m1 m2
        omega
      generalize hv : nrF (nxS h0) x t (h0 0).toNat = v at nb v1 v2 ⊢
      refine ⟨fun c2 => ?_, fun c2 => ?_⟩ <;> (try simp (disch := omega) only [oi_le, oi_lt, oi_eq, oi_lt0, oi_le0, oi_0lt, oi_0le, oi_eq0, oi_eq1, bI_eq0, bI_ne0, bI_eq1, decide_eq_true_eq, decide_eq_false_iff_not, lc_lt, lc_gt, lc_eq, lc_ge, lc_le, ol_lt, ol_eq, ne_eq, Int.not_lt, Int.not_le, Bool.not_eq_true, Bool.not_eq_false, Decidable.not_not, not_true_eq_false, not_false_eq_true, Bool.true_eq_false, Bool.false_eq_true] at c2) <;> (first | (exfalso; omega) | ((with_reducible refine hJ _ _ _ _ ?_); conv => whnf) | (conv => whnf))
      · refine hJ _ _ _ _ ?_
        conv => whnf
        rw [oi_succ]
        refine ih (t + 1) (1 + v) t _ _ (by omega) ((f1'.tr (Ch.wI ⟨rfl, Or.inr ⟨rfl, Or.inr rfl⟩⟩)).tr (Ch.wI ⟨rfl, Or.inr ⟨rfl, Or.inl rfl⟩⟩)) ⟨by omega, fun _ => ⟨by omega, by omega, v1 (by omega), fun t' k a1 a2 a3 a4 => ?_⟩, fun t' k a1 a2 a3 a4 => ?_⟩ ?_ (fun _ => ?_)
        · have := f2.2.2 t' k a1 a2 a3 a4
          omega
        · by_cases e : t' = t
          · subst e
            exact v2 k a2 a3 a4
          · have := f2.2.2 t' k (by omega) a2 a3 a4
            omega
        · rw [wI1, if_neg (by omega), wI1, if_pos ⟨rfl, rfl, rfl⟩]
        · rw [wI1, if_pos ⟨rfl, rfl, rfl⟩]
      · refine hJ _ _ _ _ ?_
        conv => whnf
        rw [oi_succ]
        refine ih (t + 1) L F _ σ2 (by omega) f1' ⟨lb, fun hl => ?_, fun t' k a1 a2 a3 a4 => ?_⟩ e34 e33
        · obtain ⟨b1, b2⟩ := f2.2.1 hl
          exact ⟨by omega, b2⟩
        · by_cases e : t' = t
          · subst e
            have := v2 k a2 a3 a4
            omega
          · exact f2.2.2 t' k (by omega) a2 a3 a4
  refine loop (h0 0).toNat 0 1000000 0 _ _ (by omega) (Ch.wI ⟨rfl, Or.inr ⟨rfl, Or.inr rfl⟩⟩) ⟨by omega, fun z => by omega, fun t' k a => by omega⟩ ?_ (fun z => by omega)
  rw [wI1, if_pos ⟨rfl, rfl, rfl⟩]
theorem roS_k : ∀ t i j, roS t i j → ¬ keepI t i j := by
  intro t i j h
  unfold roS at h
  unfold keepI
  omega
theorem rgS_16 : ¬ rgS 1 0 16 := by unfold rgS; omega
theorem op_ring {CALL : CT} (hC : RuleAll CALL) {r : Nat} {σ : AM} {K : AV → AV → AM → Prop} {n : Nat} {h0 : Nat → Int} (hn : NH σ n h0) (h : ∀ v σ2, SC σ σ2 → σ2.1 1 0 16 = σ2.1 46 0 2 → K v v σ2) : CALL (r + 20) n_x_ring [.inr (.inr (1, 0))] σ (fun v σ1 => CALL (r + 20) n_m_ring [.inr (.inr (46, 0))] σ1 (fun v' σ2 => K v v' σ2)) := by
  obtain ⟨n45, hnn, hr, hm, ⟨hw, hw67⟩, h59⟩ := id hn
  have b := hw.1
  obtain ⟨q0, q1, q2, q3, q4, q5, q6, q7, q8, q9, qa, qt, qm, qe⟩ := id hr
  refine r_x_ring hC (fun J hJ => ?_)
  refine hJ _ _ _ _ ?_
  conv => whnf
  rw [hnn]
  refine ⟨by omega, ?_⟩
  conv => whnf
  refine s_shortestRing hC hr hw ?_
  intro σ1 g1 g2
  have sc1 := g1.sc roS_k
  conv => whnf
  cases hR : riL (nxS h0) (h0 0).toNat with
  | none =>
    rw [show riI none = -1 from rfl]
    refine s_giveOrNone hC (by omega) (by omega) ?_
    conv => whnf
    rw [if_pos rfl]
    refine r_m_ring hC (fun J hJ => ?_)
    refine hJ _ _ _ _ ?_
    conv => whnf
    refine s_m_laysRing hC (m0_sh hm sc1) hw ?_
    intro σ2 L F f1 f2 f3 f4
    have e := (RI_end (by omega) f2).1 hR
    conv => whnf
    rw [f3, e]
    refine ⟨fun c => ?_, fun c => ?_⟩ <;> (try simp (disch := omega) only [oi_le, oi_lt, oi_eq, oi_lt0, oi_le0, oi_0lt, oi_0le, oi_eq0, oi_eq1, bI_eq0, bI_ne0, bI_eq1, decide_eq_true_eq, decide_eq_false_iff_not, lc_lt, lc_gt, lc_eq, lc_ge, lc_le, ol_lt, ol_eq, ne_eq, Int.not_lt, Int.not_le, Bool.not_eq_true, Bool.not_eq_false, Decidable.not_not, not_true_eq_false, not_false_eq_true, Bool.true_eq_false, Bool.false_eq_true] at c) <;> (first | (exfalso; omega) | ((with_reducible refine hJ _ _ _ _ ?_); conv => whnf) | (conv => whnf))
    refine s_m_refuse hC ?_
    conv => whnf
    refine hJ _ _ _ _ ?_
    conv => whnf
    have dn := done3 (sc1.tr (SC.wI nk_code)) (by rw [wI1, if_pos ⟨rfl, rfl, rfl⟩]) f1 rgS_k rgS_16
    exact h _ _ dn.1 dn.2
  | some lf =>
    obtain ⟨l, f⟩ := lf
    have hl := riL_some hR
    rw [show riI (some (l, f)) = (l : Int) from rfl]
    refine s_giveOrNone hC (by omega) (by omega) ?_
    conv => whnf
    rw [if_neg (by omega)]
    refine r_m_ring hC (fun J hJ => ?_)
    refine hJ _ _ _ _ ?_
    conv => whnf
    refine s_m_laysRing hC (m0_sh hm sc1) hw ?_
    intro σ2 L F f1 f2 f3 f4
    have e := (RI_end (by omega) f2).2 l f hR
    rw [e.1] at f3
    conv => whnf
    rw [f3]
    refine ⟨fun c => ?_, fun c => ?_⟩ <;> (try simp (disch := omega) only [oi_le, oi_lt, oi_eq, oi_lt0, oi_le0, oi_0lt, oi_0le, oi_eq0, oi_eq1, bI_eq0, bI_ne0, bI_eq1, decide_eq_true_eq, decide_eq_false_iff_not, lc_lt, lc_gt, lc_eq, lc_ge, lc_le, ol_lt, ol_eq, ne_eq, Int.not_lt, Int.not_le, Bool.not_eq_true, Bool.not_eq_false, Decidable.not_not, not_true_eq_false, not_false_eq_true, Bool.true_eq_false, Bool.false_eq_true] at c) <;> (first | (exfalso; omega) | ((with_reducible refine hJ _ _ _ _ ?_); conv => whnf) | (conv => whnf))
    rw [f3]
    refine s_m_gives hC ?_
    conv => whnf
    refine hJ _ _ _ _ ?_
    conv => whnf
    have dn := done3 (sc1.tr (SC.wI nk_code)) (by rw [wI1, if_pos ⟨rfl, rfl, rfl⟩]) f1 rgS_k rgS_16
    exact h _ _ dn.1 dn.2
theorem op_ringAt {CALL : CT} (hC : RuleAll CALL) {r : Nat} {σ : AM} {K : AV → AV → AM → Prop} {n : Nat} {h0 : Nat → Int} (hn : NH σ n h0) {z : Int} (z1 : -2147483648 ≤ z) (z2 : z < 2147483648) (h : ∀ v σ2, SC σ σ2 → σ2.1 1 0 16 = σ2.1 46 0 2 → K v v σ2) : CALL (r + 20) n_x_ringAt [.inr (.inr (1, 0)), .inl (Int32.ofInt z)] σ (fun v σ1 => CALL (r + 20) n_m_ringAt [.inr (.inr (46, 0)), .inl (Int32.ofInt z)] σ1 (fun v' σ2 => K v v' σ2)) := by
  obtain ⟨n45, hnn, hr, hm, ⟨hw, hw67⟩, h59⟩ := id hn
  have b := hw.1
  obtain ⟨q0, q1, q2, q3, q4, q5, q6, q7, q8, q9, qa, qt, qm, qe⟩ := id hr
  refine r_x_ringAt hC (fun J hJ => ?_)
  refine hJ _ _ _ _ ?_
  conv => whnf
  refine ⟨fun c => ?_, fun c => ?_⟩ <;> (try simp (disch := omega) only [oi_le, oi_lt, oi_eq, oi_lt0, oi_le0, oi_0lt, oi_0le, oi_eq0, oi_eq1, bI_eq0, bI_ne0, bI_eq1, decide_eq_true_eq, decide_eq_false_iff_not, lc_lt, lc_gt, lc_eq, lc_ge, lc_le, ol_lt, ol_eq, ne_eq, Int.not_lt, Int.not_le, Bool.not_eq_true, Bool.not_eq_false, Decidable.not_not, not_true_eq_false, not_false_eq_true, Bool.true_eq_false, Bool.false_eq_true] at c) <;> (first | (exfalso; omega) | ((with_reducible refine hJ _ _ _ _ ?_); conv => whnf) | (conv => whnf))
  · rw [hnn]
    refine ⟨by omega, ?_⟩
    conv => whnf
    obtain ⟨k, rfl⟩ : ∃ k : Nat, z = (k : Int) := ⟨z.toNat, by omega⟩
    refine s_shortestRing hC hr hw ?_
    intro σ1 g1 g2
    have sc1 := g1.sc roS_k
    have no : ∀ (L F : Nat) (σ2 : AM), Ch rgS (wI σ1 1 0 16 (Int32.ofInt 6)) σ2 → J 44 [.inr (.inr (1, 0)), .inl (Int32.ofInt (k : Int))] [] σ1 → True := fun _ _ _ _ _ => trivial
    have ref6 : ((riL (nxS h0) (h0 0).toNat = none) ∨ ∃ l f, riL (nxS h0) (h0 0).toNat = some (l, f) ∧ l ≤ k) → J 44 [.inr (.inr (1, 0)), .inl (Int32.ofInt (k : Int))] [] σ1 := by
      intro hR
      refine hJ _ _ _ _ ?_
      conv => whnf
      refine s_none hC ?_
      conv => whnf
      refine hJ _ _ _ _ ?_
      conv => whnf
      refine r_m_ringAt hC (fun J hJ => ?_)
      refine hJ _ _ _ _ ?_
      conv => whnf
      refine ⟨fun c2 => ?_, fun c2 => ?_⟩ <;> (try simp (disch := omega) only [oi_le, oi_lt, oi_eq, oi_lt0, oi_le0, oi_0lt, oi_0le, oi_eq0, oi_eq1, bI_eq0, bI_ne0, bI_eq1, decide_eq_true_eq, decide_eq_false_iff_not, lc_lt, lc_gt, lc_eq, lc_ge, lc_le, ol_lt, ol_eq, ne_eq, Int.not_lt, Int.not_le, Bool.not_eq_true, Bool.not_eq_false, Decidable.not_not, not_true_eq_false, not_false_eq_true, Bool.true_eq_false, Bool.false_eq_true] at c2) <;> (first | (exfalso; omega) | ((with_reducible refine hJ _ _ _ _ ?_); conv => whnf) | (conv => whnf))
      refine s_m_laysRing hC (m0_sh hm sc1) hw ?_
      intro σ2 L F f1 f2 f3 f4
      have lb := f2.1
      have dn := done3 (sc1.tr (SC.wI nk_code)) (by rw [wI1, if_pos ⟨rfl, rfl, rfl⟩]) f1 rgS_k rgS_16
      have r32 : J 32 [.inr (.inr (46, 0)), .inl (Int32.ofInt (k : Int)), unset, unset, unset] [] σ2 := by
        refine hJ _ _ _ _ ?_
        conv => whnf
        refine s_m_refuse hC ?_
        conv => whnf
        exact h _ _ dn.1 dn.2
      conv => whnf
      rw [f3]
      refine ⟨fun c3 => ?_, fun c3 => ?_⟩ <;> (try simp (disch := omega) only [oi_le, oi_lt, oi_eq, oi_lt0, oi_le0, oi_0lt, oi_0le, oi_eq0, oi_eq1, bI_eq0, bI_ne0, bI_eq1, decide_eq_true_eq, decide_eq_false_iff_not, lc_lt, lc_gt, lc_eq, lc_ge, lc_le, ol_lt, ol_eq, ne_eq, Int.not_lt, Int.not_le, Bool.not_eq_true, Bool.not_eq_false, Decidable.not_not, not_true_eq_false, not_false_eq_true, Bool.true_eq_false, Bool.false_eq_true] at c3) <;> (first | (exfalso; omega) | ((fail_if_success with_reducible refine hJ _ _ _ _ ?_); conv => whnf) | skip)
      · exact r32
      · rw [f3]
        rcases hR with hR | ⟨l, f, hR, hlk⟩
        · have := (RI_end (by omega) f2).1 hR
          omega
        · have := (RI_end (by omega) f2).2 l f hR
          refine ⟨fun c4 => ?_, fun c4 => ?_⟩ <;> (try simp (disch := omega) only [oi_le, oi_lt, oi_eq, oi_lt0, oi_le0, oi_0lt, oi_0le, oi_eq0, oi_eq1, bI_eq0, bI_ne0, bI_eq1, decide_eq_true_eq, decide_eq_false_iff_not, lc_lt, lc_gt, lc_eq, lc_ge, lc_le, ol_lt, ol_eq, ne_eq, Int.not_lt, Int.not_le, Bool.not_eq_true, Bool.not_eq_false, Decidable.not_not, not_true_eq_false, not_false_eq_true, Bool.true_eq_false, Bool.false_eq_true] at c4) <;> (first | (exfalso; omega) | ((with_reducible refine hJ _ _ _ _ ?_); conv => whnf) | (conv => whnf))
          exact r32
    conv => whnf
    cases hR : riL (nxS h0) (h0 0).toNat with
    | none =>
      rw [show riI none = -1 from rfl]
      refine ⟨fun c3 => ?_, fun c3 => ?_⟩ <;> (try simp (disch := omega) only [oi_le, oi_lt, oi_eq, oi_lt0, oi_le0, oi_0lt, oi_0le, oi_eq0, oi_eq1, bI_eq0, bI_ne0, bI_eq1, decide_eq_true_eq, decide_eq_false_iff_not, lc_lt, lc_gt, lc_eq, lc_ge, lc_le, ol_lt, ol_eq, ne_eq, Int.not_lt, Int.not_le, Bool.not_eq_true, Bool.not_eq_false, Decidable.not_not, not_true_eq_false, not_false_eq_true, Bool.true_eq_false, Bool.false_eq_true] at c3) <;> (first | (exfalso; omega) | ((fail_if_success with_reducible refine hJ _ _ _ _ ?_); conv => whnf) | skip)
      exact ref6 (Or.inl hR)
    | some lf =>
      obtain ⟨l, f⟩ := lf
      have hl := riL_some hR
      rw [show riI (some (l, f)) = (l : Int) from rfl]
      refine ⟨fun c3 => ?_, fun c3 => ?_⟩ <;> (try simp (disch := omega) only [oi_le, oi_lt, oi_eq, oi_lt0, oi_le0, oi_0lt, oi_0le, oi_eq0, oi_eq1, bI_eq0, bI_ne0, bI_eq1, decide_eq_true_eq, decide_eq_false_iff_not, lc_lt, lc_gt, lc_eq, lc_ge, lc_le, ol_lt, ol_eq, ne_eq, Int.not_lt, Int.not_le, Bool.not_eq_true, Bool.not_eq_false, Decidable.not_not, not_true_eq_false, not_false_eq_true, Bool.true_eq_false, Bool.false_eq_true] at c3) <;> (first | (exfalso; omega) | ((fail_if_success with_reducible refine hJ _ _ _ _ ?_); conv => whnf) | skip)
      · exact ref6 (Or.inr ⟨l, f, hR, by omega⟩)
      · refine ⟨(oi_in (by omega) (by omega)).mpr ⟨by omega, by omega⟩, ?_⟩
        conv => whnf
        rw [oi_nat (by omega) (by omega), Int.toNat_natCast, g2 l f hR k (by omega)]
        refine s_give hC ?_
        conv => whnf
        refine hJ _ _ _ _ ?_
        conv => whnf
        refine r_m_ringAt hC (fun J hJ => ?_)
        refine hJ _ _ _ _ ?_
        conv => whnf
        refine ⟨fun c4 => ?_, fun c4 => ?_⟩ <;> (try simp (disch := omega) only [oi_le, oi_lt, oi_eq, oi_lt0, oi_le0, oi_0lt, oi_0le, oi_eq0, oi_eq1, bI_eq0, bI_ne0, bI_eq1, decide_eq_true_eq, decide_eq_false_iff_not, lc_lt, lc_gt, lc_eq, lc_ge, lc_le, ol_lt, ol_eq, ne_eq, Int.not_lt, Int.not_le, Bool.not_eq_true, Bool.not_eq_false, Decidable.not_not, not_true_eq_false, not_false_eq_true, Bool.true_eq_false, Bool.false_eq_true] at c4) <;> (first | (exfalso; omega) | ((with_reducible refine hJ _ _ _ _ ?_); conv => whnf) | (conv => whnf))
        refine s_m_laysRing hC (m0_sh hm sc1) hw ?_
        intro σ2 L F f1 f2 f3 f4
        have e := (RI_end (by omega) f2).2 l f hR
        have f5 := f4 (by omega)
        rw [e.1] at f3
        rw [e.2] at f5
        have hff : (f : Int) < h0 0 := by omega
        conv => whnf
        rw [f3]
        refine ⟨fun c5 => ?_, fun c5 => ?_⟩ <;> (try simp (disch := omega) only [oi_le, oi_lt, oi_eq, oi_lt0, oi_le0, oi_0lt, oi_0le, oi_eq0, oi_eq1, bI_eq0, bI_ne0, bI_eq1, decide_eq_true_eq, decide_eq_false_iff_not, lc_lt, lc_gt, lc_eq, lc_ge, lc_le, ol_lt, ol_eq, ne_eq, Int.not_lt, Int.not_le, Bool.not_eq_true, Bool.not_eq_false, Decidable.not_not, not_true_eq_false, not_false_eq_true, Bool.true_eq_false, Bool.false_eq_true] at c5) <;> (first | (exfalso; omega) | ((with_reducible refine hJ _ _ _ _ ?_); conv => whnf) | (conv => whnf))
        rw [f3]
        refine ⟨fun c6 => ?_, fun c6 => ?_⟩ <;> (try simp (disch := omega) only [oi_le, oi_lt, oi_eq, oi_lt0, oi_le0, oi_0lt, oi_0le, oi_eq0, oi_eq1, bI_eq0, bI_ne0, bI_eq1, decide_eq_true_eq, decide_eq_false_iff_not, lc_lt, lc_gt, lc_eq, lc_ge, lc_le, ol_lt, ol_eq, ne_eq, Int.not_lt, Int.not_le, Bool.not_eq_true, Bool.not_eq_false, Decidable.not_not, not_true_eq_false, not_false_eq_true, Bool.true_eq_false, Bool.false_eq_true] at c6) <;> (first | (exfalso; omega) | ((with_reducible refine hJ _ _ _ _ ?_); conv => whnf) | (conv => whnf))
        rw [f5]
        refine s_m_laysFar hC ((m0_sh hm sc1).ch f1 (fun j hj => by unfold rgS; omega)) hw hff ?_
        intro σ3 x k1 k2 k3 k4
        have ch3 := f1.tr (faS_r k1)
        have m3 : M0 σ3 h0 := (m0_sh hm sc1).ch ch3 (fun j hj => by unfold rgS; omega)
        have e34 : σ3.1 46 0 34 = Int32.ofInt (l : Nat) := (k1.1 46 0 34 (by unfold faS; omega)).trans f3
        have e33 : σ3.1 46 0 33 = Int32.ofInt (f : Nat) := (k1.1 46 0 33 (by unfold faS; omega)).trans f5
        have dn := done3 (sc1.tr (SC.wI nk_code)) (by rw [wI1, if_pos ⟨rfl, rfl, rfl⟩]) ch3 rgS_k rgS_16
        conv => whnf
        rw [e33]
        have hwl : wk (nxS h0) (h0 0).toNat (l - 1 + 1) f f = true := by
          rw [show l - 1 + 1 = l by omega]
          exact hl.2.2.2.1
        have loop : ∀ (q i : Nat) (y : AV), i + q = k → J 54 [.inr (.inr (46, 0)), .inl (Int32.ofInt (k : Int)), .inl (Int32.ofInt (rp (nxS h0) (h0 0).toNat f i (l - 1) f : Nat)), .inl (Int32.ofInt (i : Int)), y] [] σ3 := by
          intro q
          induction q with
          | zero =>
            intro i y hi
            have : i = k := by omega
            subst this
            refine hJ _ _ _ _ ?_
            conv => whnf
            refine ⟨fun c7 => ?_, fun c7 => ?_⟩ <;> (try simp (disch := omega) only [oi_le, oi_lt, oi_eq, oi_lt0, oi_le0, oi_0lt, oi_0le, oi_eq0, oi_eq1, bI_eq0, bI_ne0, bI_eq1, decide_eq_true_eq, decide_eq_false_iff_not, lc_lt, lc_gt, lc_eq, lc_ge, lc_le, ol_lt, ol_eq, ne_eq, Int.not_lt, Int.not_le, Bool.not_eq_true, Bool.not_eq_false, Decidable.not_not, not_true_eq_false, not_false_eq_true, Bool.true_eq_false, Bool.false_eq_true] at c7) <;> (first | (exfalso; omega) | ((with_reducible refine hJ _ _ _ _ ?_); conv => whnf) | (conv => whnf))
            refine s_m_gives hC ?_
            conv => whnf
            exact h _ _ dn.1 dn.2
          | succ q ih =>
            intro i y hi
            obtain ⟨s1, s2, s3, s4⟩ := rp_s (nxS h0) (h0 0).toNat f i (l - 1) f hwl (by omega) (by omega)
            obtain ⟨n2, s5, s6⟩ := s4 (by omega)
            have nxt := ih (i + 1)
            rw [s6] at nxt
            generalize rp (nxS h0) (h0 0).toNat f i (l - 1) f = u at s1 s2 s3 s5 nxt ⊢
            have hnl := nxS_lt hw (t := u) (by omega)
            have hfx := firstF_ge s5
            have iff1 : ∀ n, n < (h0 0).toNat → (nxS h0 u).testBit n = true → (wk (nxS h0) (h0 0).toNat (l - 1 - i) n f = true ↔ x n = l - 1 - i) := by
              intro n a1 a2
              constructor
              · intro a3
                have a4 := k4 n a1 (l - 1 - i) (by omega) a3
                by_cases a5 : x n = l - 1 - i
                · exact a5
                · have a6 := k3 n a1 (by omega)
                  have a7 := wk_cat s2 (wk_s.mpr ⟨n, a1, a2, a6⟩)
                  rw [hl.2.2.2.2.2 (i + (x n + 1)) f (by omega) (by omega) hl.2.2.1] at a7
                  cases a7
              · intro a3
                rw [← a3]
                exact k3 n a1 (by omega)
            refine hJ _ _ _ _ ?_
            conv => whnf
            refine ⟨fun c7 => ?_, fun c7 => ?_⟩ <;> (try simp (disch := omega) only [oi_le, oi_lt, oi_eq, oi_lt0, oi_le0, oi_0lt, oi_0le, oi_eq0, oi_eq1, bI_eq0, bI_ne0, bI_eq1, decide_eq_true_eq, decide_eq_false_iff_not, lc_lt, lc_gt, lc_eq, lc_ge, lc_le, ol_lt, ol_eq, ne_eq, Int.not_lt, Int.not_le, Bool.not_eq_true, Bool.not_eq_false, Decidable.not_not, not_true_eq_false, not_false_eq_true, Bool.true_eq_false, Bool.false_eq_true] at c7) <;> (first | (exfalso; omega) | ((with_reducible refine hJ _ _ _ _ ?_); conv => whnf) | (conv => whnf))
            have seek : ∀ (w j : Nat), j + w = n2 → J 62 [.inr (.inr (46, 0)), .inl (Int32.ofInt (k : Int)), .inl (Int32.ofInt (u : Int)), .inl (Int32.ofInt (i : Int)), .inl (Int32.ofInt (j : Int))] [] σ3 := by
              intro w
              induction w with
              | zero =>
                intro j hj
                have : j = n2 := by omega
                subst this
                have hb := hfx.2.2.1
                simp only [Bool.and_eq_true] at hb
                have xj := (iff1 j (by omega) hb.1).mp hb.2
                refine hJ _ _ _ _ ?_
                conv => whnf
                refine s_m_nextOf hC m3 (by omega) ?_
                conv => whnf
                rw [hnl.2]
                refine s_m_isIn hC (by omega) (by omega) ?_
                conv => whnf
                rw [hb.1]
                refine ⟨fun c8 => ?_, fun c8 => ?_⟩ <;> (try simp (disch := omega) only [oi_le, oi_lt, oi_eq, oi_lt0, oi_le0, oi_0lt, oi_0le, oi_eq0, oi_eq1, bI_eq0, bI_ne0, bI_eq1, decide_eq_true_eq, decide_eq_false_iff_not, lc_lt, lc_gt, lc_eq, lc_ge, lc_le, ol_lt, ol_eq, ne_eq, Int.not_lt, Int.not_le, Bool.not_eq_true, Bool.not_eq_false, Decidable.not_not, not_true_eq_false, not_false_eq_true, Bool.true_eq_false, Bool.false_eq_true] at c8) <;> (first | (exfalso; omega) | ((with_reducible refine hJ _ _ _ _ ?_); conv => whnf) | (conv => whnf))
                refine ⟨(oi_in (by omega) (by omega)).mpr ⟨by omega, by omega⟩, ?_⟩
                conv => whnf
                rw [oi_nat (by omega) (by omega), Int.toNat_natCast, (k2 j (by omega)).1, e34, oi_sub, oi_sub, xj]
                refine ⟨fun c9 => ?_, fun c9 => ?_⟩ <;> (try simp (disch := omega) only [oi_le, oi_lt, oi_eq, oi_lt0, oi_le0, oi_0lt, oi_0le, oi_eq0, oi_eq1, bI_eq0, bI_ne0, bI_eq1, decide_eq_true_eq, decide_eq_false_iff_not, lc_lt, lc_gt, lc_eq, lc_ge, lc_le, ol_lt, ol_eq, ne_eq, Int.not_lt, Int.not_le, Bool.not_eq_true, Bool.not_eq_false, Decidable.not_not, not_true_eq_false, not_false_eq_true, Bool.true_eq_false, Bool.false_eq_true] at c9) <;> (first | (exfalso; omega) | ((with_reducible refine hJ _ _ _ _ ?_); conv => whnf) | (conv => whnf))
                rw [oi_succ]
                exact nxt _ (by omega)
              | succ w ihw =>
                intro j hj
                have hb := hfx.2.2.2 j (by omega) (by omega)
                have skip : J 94 [.inr (.inr (46, 0)), .inl (Int32.ofInt (k : Int)), .inl (Int32.ofInt (u : Int)), .inl (Int32.ofInt (i : Int)), .inl (Int32.ofInt (j : Int))] [] σ3 := by
                  refine hJ _ _ _ _ ?_
                  conv => whnf
                  rw [oi_succ]
                  exact ihw (j + 1) (by omega)
                have xb := k2 j (by omega)
                refine hJ _ _ _ _ ?_
                conv => whnf
                refine s_m_nextOf hC m3 (by omega) ?_
                conv => whnf
                rw [hnl.2]
                refine s_m_isIn hC (by omega) (by omega) ?_
                conv => whnf
                refine ⟨fun c8 => ?_, fun c8 => ?_⟩ <;> (try simp (disch := omega) only [oi_le, oi_lt, oi_eq, oi_lt0, oi_le0, oi_0lt, oi_0le, oi_eq0, oi_eq1, bI_eq0, bI_ne0, bI_eq1, decide_eq_true_eq, decide_eq_false_iff_not, lc_lt, lc_gt, lc_eq, lc_ge, lc_le, ol_lt, ol_eq, ne_eq, Int.not_lt, Int.not_le, Bool.not_eq_true, Bool.not_eq_false, Decidable.not_not, not_true_eq_false, not_false_eq_true, Bool.true_eq_false, Bool.false_eq_true] at c8) <;> (first | (exfalso; omega) | ((fail_if_success with_reducible refine hJ _ _ _ _ ?_); conv => whnf) | skip)
                · exact skip
                · refine ⟨(oi_in (by omega) (by omega)).mpr ⟨by omega, by omega⟩, ?_⟩
                  conv => whnf
                  have ej : (Int32.ofInt (j : Int)).toNatClampNeg = j := by rw [oi_nat (by omega) (by omega), Int.toNat_natCast]
                  have hne : x j ≠ l - 1 - i := by
                    intro z
                    have := (iff1 j (by omega) c8).mpr z
                    rw [c8, this] at hb
                    cases hb
                  rw [ej, xb.1, e34, oi_sub, oi_sub]
                  refine ⟨fun c9 => ?_, fun c9 => ?_⟩ <;> (try simp (disch := omega) only [oi_le, oi_lt, oi_eq, oi_lt0, oi_le0, oi_0lt, oi_0le, oi_eq0, oi_eq1, bI_eq0, bI_ne0, bI_eq1, decide_eq_true_eq, decide_eq_false_iff_not, lc_lt, lc_gt, lc_eq, lc_ge, lc_le, ol_lt, ol_eq, ne_eq, Int.not_lt, Int.not_le, Bool.not_eq_true, Bool.not_eq_false, Decidable.not_not, not_true_eq_false, not_false_eq_true, Bool.true_eq_false, Bool.false_eq_true] at c9) <;> (first | (exfalso; omega) | ((fail_if_success with_reducible refine hJ _ _ _ _ ?_); conv => whnf) | skip)
                  exact skip
            exact seek n2 0 (by omega)
        exact loop k 0 _ (by omega)
  · refine s_none hC ?_
    conv => whnf
    refine r_m_ringAt hC (fun J hJ => ?_)
    refine hJ _ _ _ _ ?_
    conv => whnf
    refine ⟨fun c2 => ?_, fun c2 => ?_⟩ <;> (try simp (disch := omega) only [oi_le, oi_lt, oi_eq, oi_lt0, oi_le0, oi_0lt, oi_0le, oi_eq0, oi_eq1, bI_eq0, bI_ne0, bI_eq1, decide_eq_true_eq, decide_eq_false_iff_not, lc_lt, lc_gt, lc_eq, lc_ge, lc_le, ol_lt, ol_eq, ne_eq, Int.not_lt, Int.not_le, Bool.not_eq_true, Bool.not_eq_false, Decidable.not_not, not_true_eq_false, not_false_eq_true, Bool.true_eq_false, Bool.false_eq_true] at c2) <;> (first | (exfalso; omega) | ((with_reducible refine hJ _ _ _ _ ?_); conv => whnf) | (conv => whnf))
    refine s_m_refuse hC ?_
    conv => whnf
    exact h _ _ done2.1 done2.2
