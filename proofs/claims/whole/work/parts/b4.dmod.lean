/-! the reference as far as it has read the days -/
def dmT (t i j : Nat) : Prop := (t = 46 ∧ i = 0 ∧ ((12 ≤ j ∧ j ≤ 15) ∨ j = 17 ∨ j = 18 ∨ j = 22 ∨ j = 23)) ∨ (t = 47 ∧ i = 0 ∧ 1860 ≤ j ∧ j < 2325) ∨ (t = 54 ∧ i = 0)
def DM (σ : AM) (B : Nat → Int) (L : Nat) (S : DZ) : Prop := AMo σ B L S.1 ∧ σ.1 47 0 1870 = Int32.ofInt (S.2.1 : Int) ∧ σ.1 46 0 22 = Int32.ofInt (S.2.2.2.1 : Int) ∧ σ.1 46 0 23 = Int32.ofInt (S.2.2.2.2.2 : Int) ∧ (∀ i, i < S.2.2.2.1 → σ.1 54 0 i = Int32.ofInt (S.2.2.2.2.1 i : Int)) ∧ (∀ k, k < S.2.1 → ∀ j, j < 6 → σ.1 47 0 (1957 + 6 * k + j) = Int32.ofInt (S.2.2.1 k j)) ∧ σ.1 46 0 17 = Int32.ofInt (-1)
def HM (σ : AM) (tn mn : Nat → List Nat) (a b : Nat) : Prop := a ≤ 6 ∧ b ≤ 7 ∧ σ.1 47 0 0 = Int32.ofInt (a : Int) ∧ σ.1 47 0 1 = Int32.ofInt (b : Int) ∧ (∀ t, t < a → WordOk (tn t) ∧ σ.2.1 48 0 (0 + t) = Int64.ofInt ((enc8 (tn t) : Nat) : Int)) ∧ (∀ m, m < b → WordOk (mn m) ∧ σ.2.1 48 0 (6 + m) = Int64.ofInt ((enc8 (mn m) : Nat) : Int))
theorem HM.ch {σ σ' : AM} {tn mn : Nat → List Nat} {a b : Nat} (h : HM σ tn mn a b) (hc : Ch dmT σ σ') : HM σ' tn mn a b := by
  obtain ⟨h1, h2, h3, h4, h5, h6⟩ := h
  exact ⟨h1, h2, by rw [hc.1 _ _ _ (by unfold dmT; omega)]; exact h3, by rw [hc.1 _ _ _ (by unfold dmT; omega)]; exact h4, fun t ht => by rw [hc.2]; exact h5 t ht, fun t ht => by rw [hc.2]; exact h6 t ht⟩
def Om (σ : AM) (B : Nat → Int) (L : Nat) (R : Rd) (bb : Bool) : Prop := match R with
  | .inl S => bb = true ∧ DM σ B L S
  | .inr (c, f) => bb = false ∧ σ.1 46 0 18 = Int32.ofInt c ∧ σ.1 46 0 17 = Int32.ofInt (f : Int) ∧ 1 ≤ c ∧ c ≤ 9
theorem Om.fl {σ : AM} {B : Nat → Int} {L f : Nat} {c : Int} (h1 : 1 ≤ c) (h9 : c ≤ 9) : Om (fM σ B L f c) B L (dFl B L f c) false := by
  refine ⟨rfl, ?_, ?_, ?_, ?_⟩
  · show (wI (wI σ 46 0 18 _) 46 0 17 _).1 46 0 18 = _
    rw [wI1, if_neg (by omega), wI_16]
  · show (wI (wI σ 46 0 18 _) 46 0 17 _).1 46 0 17 = _
    rw [wI_16]
  · unfold flK; split <;> omega
  · unfold flK; split <;> omega
theorem fM_dm {σ : AM} {B : Nat → Int} {L f : Nat} {c : Int} : Ch dmT σ (fM σ B L f c) := (Ch.wI (Or.inl ⟨rfl, rfl, by omega⟩)).tr (Ch.wI (Or.inl ⟨rfl, rfl, by omega⟩))
theorem tm_dm {σ σ' : AM} (h : Ch tmS σ σ') : Ch dmT σ σ' := h.mo (fun t i j z => Or.inl (by unfold tmS at z; omega))
def toS (to t i j : Nat) : Prop := tmS t i j ∨ (t = 47 ∧ i = 0 ∧ j = to)
theorem to_dm {σ σ' : AM} {to : Nat} (h1 : 1860 ≤ to) (h2 : to < 2325) (h : Ch (toS to) σ σ') : Ch dmT σ σ' := h.mo (fun t i j z => by unfold toS tmS at z; unfold dmT; omega)
/-- a step is begun -/
def MP (σ : AM) (B : Nat → Int) (L : Nat) (S : DZ) (nn : Nat) (g : Nat → Int) (f : Nat) : Prop := AMo σ B L f ∧ σ.1 47 0 1870 = Int32.ofInt ((S.2.1 : Int) + 1) ∧ σ.1 46 0 22 = Int32.ofInt (S.2.2.2.1 : Int) ∧ σ.1 46 0 23 = Int32.ofInt (nn : Int) ∧ (∀ i, i < S.2.2.2.1 → σ.1 54 0 i = Int32.ofInt (S.2.2.2.2.1 i : Int)) ∧ (∀ k, k < S.2.1 → ∀ j, j < 6 → σ.1 47 0 (1957 + 6 * k + j) = Int32.ofInt (S.2.2.1 k j)) ∧ (∀ j, j < 6 → σ.1 47 0 (1957 + 6 * S.2.1 + j) = Int32.ofInt (g j)) ∧ σ.1 46 0 17 = Int32.ofInt (-1)
theorem MP.ch {σ σ' : AM} {B : Nat → Int} {L f f' nn : Nat} {S : DZ} {g g' : Nat → Int} {C : Nat → Nat → Nat → Prop} (h : MP σ B L S nn g f) (hc : Ch C σ σ') (ha : AMo σ' B L f') (hs : ∀ t i j, C t i j → (t = 46 ∧ 12 ≤ j ∧ j ≤ 15) ∨ (t = 47 ∧ 1957 + 6 * S.2.1 ≤ j ∧ j < 1957 + 6 * S.2.1 + 6)) (hg : ∀ j, j < 6 → σ'.1 47 0 (1957 + 6 * S.2.1 + j) = Int32.ofInt (g' j)) : MP σ' B L S nn g' f' := by
  obtain ⟨h1, h2, h3, h4, h5, h6, h7, h8⟩ := h
  have e : ∀ t i j, ¬ ((t = 46 ∧ 12 ≤ j ∧ j ≤ 15) ∨ (t = 47 ∧ 1957 + 6 * S.2.1 ≤ j ∧ j < 1957 + 6 * S.2.1 + 6)) → σ'.1 t i j = σ.1 t i j := fun t i j z => hc.1 t i j (fun y => z (hs t i j y))
  exact ⟨ha, by rw [e _ _ _ (by omega)]; exact h2, by rw [e _ _ _ (by omega)]; exact h3, by rw [e _ _ _ (by omega)]; exact h4, fun i hi => by rw [e _ _ _ (by omega)]; exact h5 i hi, fun k hk j hj => by rw [e _ _ _ (by omega)]; exact h6 k hk j hj, hg, by rw [e _ _ _ (by omega)]; exact h8⟩
theorem MP.tk {σ σ' : AM} {B : Nat → Int} {L f f' nn : Nat} {S : DZ} {g : Nat → Int} (h : MP σ B L S nn g f) (hc : Ch tmS σ σ') (ha : AMo σ' B L f') : MP σ' B L S nn g f' := h.ch hc ha (fun t i j z => by unfold tmS at z; omega) (fun j hj => by rw [hc.1 _ _ _ (by unfold tmS; omega)]; exact h.2.2.2.2.2.2.1 j hj)
theorem MP.to {σ σ' : AM} {B : Nat → Int} {L f f' nn i : Nat} {S : DZ} {g : Nat → Int} {v : Int} (h : MP σ B L S nn g f) (hi : i < 6) (hc : Ch (toS (1957 + 6 * S.2.1 + i)) σ σ') (ha : AMo σ' B L f') (hv : σ'.1 47 0 (1957 + 6 * S.2.1 + i) = Int32.ofInt v) : MP σ' B L S nn (up g i v) f' := by
  refine h.ch hc ha (fun t i j z => by unfold toS tmS at z; omega) (fun j hj => ?_)
  by_cases c : j = i
  · rw [c, hv, up_eq]
  · rw [up_ne c, hc.1 _ _ _ (by unfold toS tmS; omega)]; exact h.2.2.2.2.2.2.1 j hj
theorem MP.w {σ : AM} {B : Nat → Int} {L f nn i : Nat} {S : DZ} {g : Nat → Int} {v : Int} (h : MP σ B L S nn g f) (hi : i < 6) : MP (wI σ 47 0 (1957 + 6 * S.2.1 + i) (Int32.ofInt v)) B L S nn (up g i v) f := h.to hi (Ch.wI (Or.inr ⟨rfl, rfl, rfl⟩)) (h.1.ch (S := fun t _ _ => t = 47) (fun t q j z => by rw [wI1, if_neg (fun y => z y.1)]) (fun j _ _ z => by omega) (fun j z => by omega)) wI_16
theorem m_dsemi {CALL : CT} (hC : RuleAll CALL) {r : Nat} {σ : AM} {K : AV → AM → Prop} {B : Nat → Int} {L : Nat} {S : DZ} (hm : DM σ B L S) (h : ∀ (b : Bool) (σ' : AM), Om σ' B L (dSemi B L S) b → Ch dmT σ σ' → K (.inl (bI b)) σ') : CALL (r + 3) n_m_wantSign [.inr (.inr (46, 0)), .inl (Int32.ofInt 59)] σ K := by
  refine s_m_wantSign hC hm.1 (fun z σ' k1 k2 => ?_) (fun z => ?_)
  · refine h true σ' ?_ (tm_dm k2)
    unfold dSemi
    rw [if_pos z]
    obtain ⟨h1, h2, h3, h4, h5, h6, h7⟩ := hm
    exact ⟨rfl, k1, by rw [k2.1 _ _ _ (by unfold tmS; omega)]; exact h2, by rw [k2.1 _ _ _ (by unfold tmS; omega)]; exact h3, by rw [k2.1 _ _ _ (by unfold tmS; omega)]; exact h4, fun i hi => by rw [k2.1 _ _ _ (by unfold tmS; omega)]; exact h5 i hi, fun k hk j hj => by rw [k2.1 _ _ _ (by unfold tmS; omega)]; exact h6 k hk j hj, by rw [k2.1 _ _ _ (by unfold tmS; omega)]; exact h7⟩
  · refine h false _ ?_ fM_dm
    unfold dSemi
    rw [if_neg z]
    exact Om.fl (by omega) (by omega)
theorem m_dnum {CALL : CT} (hC : RuleAll CALL) {r : Nat} {σ : AM} {K : AV → AM → Prop} {B : Nat → Int} {L f nn i : Nat} {S : DZ} {g : Nat → Int} {x lo hi : Int} {k : Int → Nat → Rd} (hm : MP σ B L S nn g f) (hto : x = ((1957 + 6 * S.2.1 + i : Nat) : Int)) (hi6 : i < 6) (hs : S.2.1 < 60) (l1 : 0 ≤ lo) (l2 : lo ≤ 10000) (u1 : 0 ≤ hi) (u2 : hi ≤ 10000) (h1 : ∀ (v : Int) (σ' : AM), MP σ' B L S nn (up g i v) (nxT B L f) → Ch dmT σ σ' → dNum B L lo hi f k = k v (nxT B L f) → K (.inl (Int32.ofInt 1)) σ') (h2 : ∀ σ' : AM, Om σ' B L (dNum B L lo hi f k) false → Ch dmT σ σ' → K (.inl (Int32.ofInt 0)) σ') : CALL (r + 3) n_m_number [.inr (.inr (46, 0)), .inl (Int32.ofInt x), .inl (Int32.ofInt lo), .inl (Int32.ofInt hi)] σ K := by
  refine s_m_number hC hm.1 hto (by omega) l1 l2 u1 u2 (fun z σ' k1 k2 k3 => ?_) (fun z => ?_) (fun z z2 => ?_)
  · refine h1 _ σ' (hm.to hi6 k2 k1 k3) (to_dm (by omega) (by omega) k2) ?_
    unfold dNum
    rw [if_neg (fun y => y z.1), if_neg (fun y => y z.2)]
  · refine h2 _ ?_ fM_dm
    unfold dNum
    rw [if_pos z]
    exact Om.fl (by omega) (by omega)
  · refine h2 _ ?_ fM_dm
    unfold dNum
    rw [if_neg (fun y => y z), if_pos z2]
    exact Om.fl (by omega) (by omega)
theorem m_dold {CALL : CT} (hC : RuleAll CALL) {r : Nat} {σ : AM} {K : AV → AM → Prop} {B : Nat → Int} {L f c base i nn : Nat} {S : DZ} {g : Nat → Int} {x : Int} {tn : Nat → List Nat} {k : Nat → Nat → Rd} (hm : MP σ B L S nn g f) (hx : x = ((1957 + 6 * S.2.1 + i : Nat) : Int)) (hi6 : i < 6) (hs : S.2.1 < 60) (hb : base + c ≤ 78) (ht : ∀ t, t < c → WordOk (tn t) ∧ σ.2.1 48 0 (base + t) = Int64.ofInt ((enc8 (tn t) : Nat) : Int)) (h1 : ∀ (t : Nat) (σ' : AM), MP σ' B L S nn (up g i (t : Int)) (nxT B L f) → Ch dmT σ σ' → dOld B L tn c f k = k t (nxT B L f) → K (.inl (Int32.ofInt 1)) σ') (h2 : ∀ σ' : AM, Om σ' B L (dOld B L tn c f k) false → Ch dmT σ σ' → K (.inl (Int32.ofInt 0)) σ') : CALL (r + 4) n_m_oldOne [.inr (.inr (46, 0)), .inl (Int32.ofInt (base : Int)), .inl (Int32.ofInt (c : Int)), .inl (Int32.ofInt x)] σ K := by
  refine r_m_oldOne hC (fun J hJ => ?_)
  refine hJ _ _ _ _ ?_
  conv => whnf
  subst hx
  have ha := hm.1
  have fb := fnW_bd tn c (wdH B L f)
  refine s_m_isNm hC ha ?_
  conv => whnf
  refine ⟨fun c2 => ?_, fun c2 => ?_⟩ <;> (try simp (disch := omega) only [oi_le, oi_lt, oi_eq, oi_lt0, oi_le0, oi_0lt, oi_0le, oi_eq0, oi_eq1, bI_eq0, bI_ne0, bI_eq1, decide_eq_true_eq, decide_eq_false_iff_not, lc_lt, lc_gt, lc_eq, lc_ge, lc_le, ol_lt, ol_eq, ne_eq, Int.not_lt, Int.not_le, Bool.not_eq_true, Bool.not_eq_false, Decidable.not_not, not_true_eq_false, not_false_eq_true, Bool.true_eq_false, Bool.false_eq_true] at c2) <;> (first | (exfalso; omega) | ((with_reducible refine hJ _ _ _ _ ?_); conv => whnf) | (conv => whnf))
  · refine s_m_findHere hC ha c2 hb ht ?_
    conv => whnf
    refine ⟨(oi_in (by omega) (by omega)).mpr ⟨by omega, by omega⟩, ?_⟩
    conv => whnf
    rw [oi_nat (by omega) (by omega), Int.toNat_natCast]
    refine ⟨(oi_in (by omega) (by omega)).mpr ⟨by omega, by omega⟩, ?_⟩
    conv => whnf
    rw [wI_16]
    have ha1 : AMo (wI σ 47 0 (1957 + 6 * S.2.1 + i) (Int32.ofInt (opI (fnW tn c (wdH B L f))))) B L f := ha.ch (S := fun t _ _ => t = 47) (fun t q j z => by rw [wI1, if_neg (fun y => z y.1)]) (fun j _ _ z => by omega) (fun j z => by omega)
    refine ⟨fun c3 => ?_, fun c3 => ?_⟩ <;> (try simp (disch := omega) only [oi_le, oi_lt, oi_eq, oi_lt0, oi_le0, oi_0lt, oi_0le, oi_eq0, oi_eq1, bI_eq0, bI_ne0, bI_eq1, decide_eq_true_eq, decide_eq_false_iff_not, lc_lt, lc_gt, lc_eq, lc_ge, lc_le, ol_lt, ol_eq, ne_eq, Int.not_lt, Int.not_le, Bool.not_eq_true, Bool.not_eq_false, Decidable.not_not, not_true_eq_false, not_false_eq_true, Bool.true_eq_false, Bool.false_eq_true] at c3) <;> (first | (exfalso; omega) | ((with_reducible refine hJ _ _ _ _ ?_); conv => whnf) | (conv => whnf))
    · refine s_m_adv hC ha1 (fun σ' k1 k2 => ?_)
      conv => whnf
      cases ef : fnW tn c (wdH B L f) with
      | none => rw [ef] at c3; exact absurd rfl c3
      | some t =>
        rw [ef] at k2
        have f2 : Ch (toS (1957 + 6 * S.2.1 + i)) σ σ' := (Ch.wI (Or.inr ⟨rfl, rfl, rfl⟩)).tr (k2.mo (fun _ _ _ z => Or.inl z))
        refine ⟨Or.inr rfl, h1 t σ' (hm.to hi6 f2 k1 ?_) (to_dm (by omega) (by omega) f2) ?_⟩
        · rw [k2.1 _ _ _ (by unfold tmS; omega), wI_16]
          rfl
        · unfold dOld
          rw [if_neg (by rw [c2]; decide), ef]
    · refine s_m_fails hC ha1.2.2.1 ha1.2.2.2 ?_
      conv => whnf
      refine ⟨Or.inl rfl, h2 _ ?_ ((Ch.wI (Or.inr (Or.inl ⟨rfl, rfl, by omega, by omega⟩))).tr fM_dm)⟩
      unfold dOld
      rw [if_neg (by rw [c2]; decide), fb.2.2.1.mp c3]
      exact Om.fl (by omega) (by omega)
  · refine s_m_fails hC ha.2.2.1 ha.2.2.2 ?_
    conv => whnf
    refine ⟨Or.inl rfl, h2 _ ?_ fM_dm⟩
    unfold dOld
    rw [if_pos c2]
    exact Om.fl (by omega) (by omega)
theorem m_dmonk {CALL : CT} (hC : RuleAll CALL) {r : Nat} {σ : AM} {K : AV → AM → Prop} {B : Nat → Int} {L f a b i nn : Nat} {S : DZ} {g : Nat → Int} {x : Int} {tn mn : Nat → List Nat} {k : Nat → Nat → Rd} (hm : MP σ B L S nn g f) (hn : HM σ tn mn a b) (hx : x = ((1957 + 6 * S.2.1 + i : Nat) : Int)) (hi6 : i < 6) (hs : S.2.1 < 60) (h1 : ∀ (t : Nat) (σ' : AM), MP σ' B L S nn (up g i (t : Int)) (nxT B L f) → Ch dmT σ σ' → dOld B L mn b f k = k t (nxT B L f) → K (.inl (Int32.ofInt 1)) σ') (h2 : ∀ σ' : AM, Om σ' B L (dOld B L mn b f k) false → Ch dmT σ σ' → K (.inl (Int32.ofInt 0)) σ') : CALL (r + 5) n_m_monkTo [.inr (.inr (46, 0)), .inl (Int32.ofInt x)] σ K := by
  refine r_m_monkTo hC (fun J hJ => ?_)
  refine hJ _ _ _ _ ?_
  conv => whnf
  obtain ⟨n1, n2, n3, n4, n5, n6⟩ := id hn
  refine ⟨(oi_in (by omega) (by omega)).mpr ⟨by omega, by omega⟩, ?_⟩
  conv => whnf
  rw [show (Int32.ofInt 1).toNatClampNeg = 1 from rfl, n4]
  refine m_dold hC (c := b) (base := 6) (tn := mn) (k := k) hm hx hi6 hs (by omega) n6 (fun t σ' a1 a2 a3 => ?_) (fun σ' a1 a2 => ?_)
  · conv => whnf
    exact ⟨Or.inr rfl, h1 t σ' a1 a2 a3⟩
  · conv => whnf
    exact ⟨Or.inl rfl, h2 σ' a1 a2⟩
