theorem MP.add {σ : AM} {B : Nat → Int} {L f : Nat} {S : DZ} {g : Nat → Int} (h : MP σ B L S (S.2.2.2.2.2 + 1) g f) : DM σ B L (dAdd S f g) := by
  obtain ⟨f0, s, d, o, stk, non⟩ := S
  obtain ⟨h1, h2, h3, h4, h5, h6, h7, h8⟩ := h
  dsimp only at h2 h3 h4 h5 h6 h7
  refine ⟨h1, by rw [h2]; rfl, h3, h4, h5, fun k hk j hj => ?_, h8⟩
  have hk : k < s + 1 := hk
  show _ = Int32.ofInt (upD d s g k j)
  by_cases c : k = s
  · rw [c, upD_eq]; exact h7 j hj
  · rw [upD_ne c]; exact h6 k (by omega) j hj
theorem MP.opn {σ : AM} {B : Nat → Int} {L f : Nat} {S : DZ} {g : Nat → Int} (h : MP σ B L S (S.2.2.2.2.2 + 1) g f) : DM (wI (wI σ 54 0 S.2.2.2.1 (Int32.ofInt (S.2.1 : Int))) 46 0 22 (Int32.ofInt ((S.2.2.2.1 : Int) + 1))) B L (dOpn S f g) := by
  obtain ⟨f0, s, d, o, stk, non⟩ := S
  obtain ⟨h1, h2, h3, h4, h5, h6, h7, h8⟩ := h
  dsimp only at h2 h3 h4 h5 h6 h7
  refine ⟨h1.ch (S := fun t _ j => t = 54 ∨ (t = 46 ∧ j = 22)) (fun t q j z => by rw [wI1, if_neg (by omega), wI1, if_neg (by omega)]) (fun j _ _ z => by omega) (fun j z => by omega), ?_, ?_, ?_, fun i hi => ?_, fun k hk j hj => ?_, ?_⟩
  · rw [wI1, if_neg (by omega), wI1, if_neg (by omega), h2]; rfl
  · rw [wI_16]; rfl
  · rw [wI1, if_neg (by omega), wI1, if_neg (by omega), h4]; rfl
  · have hi : i < o + 1 := hi
    show _ = Int32.ofInt ((upS stk o s i : Nat) : Int)
    unfold upS
    rw [wI1, if_neg (by omega)]
    by_cases c : i = o
    · rw [if_pos c, c, wI_16]
    · rw [if_neg c, wI1, if_neg (by dsimp only; omega)]; exact h5 i (by omega)
  · have hk : k < s + 1 := hk
    show _ = Int32.ofInt (upD d s g k j)
    rw [wI1, if_neg (by omega), wI1, if_neg (by omega)]
    by_cases c : k = s
    · rw [c, upD_eq]; exact h7 j hj
    · rw [upD_ne c]; exact h6 k (by omega) j hj
  · rw [wI1, if_neg (by omega), wI1, if_neg (by omega)]; exact h8
theorem MP.end {σ : AM} {B : Nat → Int} {L f : Nat} {S : DZ} (h : MP σ B L S S.2.2.2.2.2 (stp 18 0 0 0) f) (ho : 1 ≤ S.2.2.2.1) (hk : ∀ i, i < S.2.2.2.1 → S.2.2.2.2.1 i < S.2.1) : DM (wI (wI (wI σ 46 0 22 (Int32.ofInt ((S.2.2.2.1 : Int) - 1))) 47 0 (1957 + 6 * S.2.1 + 4) (Int32.ofInt ((S.2.2.2.2.1 (S.2.2.2.1 - 1) : Nat) : Int))) 47 0 (1957 + 6 * S.2.2.2.2.1 (S.2.2.2.1 - 1) + 4) (Int32.ofInt (S.2.1 : Int))) B L (dEnd S f) := by
  obtain ⟨f0, s, d, o, stk, non⟩ := S
  obtain ⟨h1, h2, h3, h4, h5, h6, h7, h8⟩ := h
  dsimp only at h2 h3 h4 h5 h6 h7 ho hk
  have t1 := hk (o - 1) (by omega)
  unfold dEnd
  dsimp only
  revert t1
  generalize ht : stk (o - 1) = u
  intro t1
  refine ⟨h1.ch (S := fun t _ j => t = 47 ∨ (t = 46 ∧ j = 22)) (fun t q j z => by rw [wI1, if_neg (by omega), wI1, if_neg (by omega), wI1, if_neg (by omega)]) (fun j _ _ z => by omega) (fun j z => by omega), ?_, ?_, ?_, fun i hi => ?_, fun k hk j hj => ?_, ?_⟩
  · rw [wI1, if_neg (by omega), wI1, if_neg (by omega), wI1, if_neg (by omega), h2]; rfl
  · rw [wI1, if_neg (by omega), wI1, if_neg (by omega), wI_16]
    congr 1
    show (o : Int) - 1 = ((o - 1 : Nat) : Int)
    omega
  · rw [wI1, if_neg (by omega), wI1, if_neg (by omega), wI1, if_neg (by omega), h4]
  · have hi : i < o - 1 := hi
    rw [wI1, if_neg (by omega), wI1, if_neg (by omega), wI1, if_neg (by omega)]; exact h5 i (by omega)
  · have hk : k < s + 1 := hk
    show _ = Int32.ofInt (upD (upD d s (up (stp 18 0 0 0) 4 (u : Int))) u (up (d u) 4 (s : Int)) k j)
    by_cases c1 : k = u
    · rw [c1, upD_eq]
      by_cases cj : j = 4
      · rw [cj, up_eq, wI_16]
      · rw [up_ne cj, wI1, if_neg (by omega), wI1, if_neg (by omega), wI1, if_neg (by omega)]; exact h6 u t1 j hj
    · rw [upD_ne c1]
      by_cases c2 : k = s
      · rw [c2, upD_eq]
        by_cases cj : j = 4
        · rw [cj, up_eq, wI1, if_neg (by omega), wI_16]
        · rw [up_ne cj, wI1, if_neg (by omega), wI1, if_neg (by omega), wI1, if_neg (by omega)]; exact h7 j hj
      · rw [upD_ne c2, wI1, if_neg (by omega), wI1, if_neg (by omega), wI1, if_neg (by omega)]; exact h6 k (by omega) j hj
  · rw [wI1, if_neg (by omega), wI1, if_neg (by omega), wI1, if_neg (by omega)]; exact h8
def dNx (B : Nat → Int) (L : Nat) (S : DZ) (y : Int) (g : Nat → Int) (f : Nat) : Rd := dSemi B L (if y = 16 ∨ y = 17 then dOpn S f g else if y = 18 then dEnd S f else dAdd S f g)
theorem dStep_ord {B : Nat → Int} {L a b : Nat} {tn mn : Nat → List Nat} {S : DZ} (h1 : 11 ≤ kwT B L S.1) (h2 : kwT B L S.1 ≤ 19) (h3 : kwT B L S.1 = 18 → S.2.2.2.1 ≠ 0) (h4 : kwT B L S.1 ≠ 18 → S.2.2.2.2.2 < 30) (h5 : kwT B L S.1 = 16 ∨ kwT B L S.1 = 17 → S.2.2.2.1 < 3) : dStep B L tn mn a b S = dOrd B L tn mn a b (kwT B L S.1) (nxT B L S.1) (dNx B L S (kwT B L S.1)) := by
  generalize hk : kwT B L S.1 = y at h1 h2 h3 h4 h5
  by_cases c18 : y = 18
  · rw [dStep_18 (hk.trans c18), if_neg (h3 c18)]
    unfold dOrd dNx
    rw [if_neg (by omega), if_neg (by omega), if_neg (by omega), if_pos (by omega), if_neg (by omega), if_pos c18]
  · rw [dStep_go (by omega) (by omega) (by omega) (h4 c18) (fun z => h5 (by omega)), hk]
    unfold dOrd
    by_cases c : y = 11
    · rw [if_pos c, if_pos c]
      congr 1
      funext v f
      unfold dNx
      rw [if_neg (by omega), if_neg (by omega)]
    rw [if_neg c, if_neg c]
    by_cases c : y = 17
    · rw [if_pos c, if_pos c]
      congr 1
      funext v f
      unfold dNx
      rw [if_pos (by omega)]
    rw [if_neg c, if_neg c]
    by_cases c : y = 16
    · rw [if_pos c, if_pos c]
      congr 1
      funext v f
      unfold dNx
      rw [if_pos (by omega)]
    rw [if_neg c, if_neg c]
    by_cases c : y = 15 ∨ y = 19
    · rw [if_pos c, if_pos (by omega)]
      unfold dNx
      rw [if_neg (by omega), if_neg (by omega)]
    · rw [if_neg c, if_neg (by omega)]
      congr 1
      funext v f
      unfold dNx
      rw [if_neg (by omega), if_neg (by omega)]
theorem m_dstep {CALL : CT} (hC : RuleAll CALL) {r : Nat} {σ : AM} {K : AV → AM → Prop} {B : Nat → Int} {L a b : Nat} {S : DZ} {dep : Nat → Nat} {tn mn : Nat → List Nat} (hm : DM σ B L S) (hn : HM σ tn mn a b) (hp : DI (a : Int) (b : Int) L S dep) (h : ∀ (bb : Bool) (σ' : AM), Om σ' B L (dStep B L tn mn a b S) bb → Ch dmT σ σ' → K (.inl (bI bb)) σ') : CALL (r + 8) n_m_dayStep [.inr (.inr (46, 0))] σ K := by
  refine r_m_dayStep hC (fun J hJ => ?_)
  refine hJ _ _ _ _ ?_
  conv => whnf
  have kwb := kwT_bd B L S.1
  obtain ⟨q1, q2, q3, q4, q5, q6, q7⟩ := id hm
  obtain ⟨-, p2, p3, p4, -, -, -, p8, -⟩ := id hp
  have hk8 : ∀ i, i < S.2.2.2.1 → S.2.2.2.2.1 i < S.2.1 := fun i hi => (p8 i hi).1
  generalize hy : kwT B L S.1 = y at kwb
  refine s_m_inW hC q1 ?_
  conv => whnf
  refine ⟨(oi_in (by omega) (by omega)).mpr ⟨by omega, by omega⟩, ?_⟩
  conv => whnf
  rw [show (Int32.ofInt 1870).toNatClampNeg = 1870 from rfl, q2, oi_mul, oi_add, hy]
  have at69 : dStep B L tn mn a b S = dFl B L S.1 2 → ∀ v, J 69 [.inr (.inr (46, 0)), .inl (Int32.ofInt y), .inl (Int32.ofInt (S.2.1 : Int)), .inl (Int32.ofInt (1957 + 6 * (S.2.1 : Int))), v, unset] [] σ := by
    intro e v
    refine hJ _ _ _ _ ?_
    conv => whnf
    refine s_m_fails hC q1.2.2.1 q1.2.2.2 ?_
    conv => whnf
    exact ⟨Or.inl rfl, h false _ (e ▸ Om.fl (by omega) (by omega)) fM_dm⟩
  have at279 : ∀ (S' : DZ) (σ3 : AM) (v4 v5 : AV), DM σ3 B L S' → Ch dmT σ σ3 → dStep B L tn mn a b S = dSemi B L S' → J 279 [.inr (.inr (46, 0)), .inl (Int32.ofInt y), .inl (Int32.ofInt (S.2.1 : Int)), .inl (Int32.ofInt (1957 + 6 * (S.2.1 : Int))), v4, v5] [] σ3 := by
    intro S' σ3 v4 v5 hm3 f3 e3
    refine hJ _ _ _ _ ?_
    conv => whnf
    refine m_dsemi hC hm3 (fun bb σ4 o4 f4 => ?_)
    conv => whnf
    exact ⟨bI_01 bb, h bb σ4 (by rw [e3]; exact o4) (f3.tr f4)⟩
  have at197 : ∀ (ow : Int) (g : Nat → Int) (f' nn : Nat) (σ2 : AM) (v5 : AV), (ow = 1 ∧ (y = 16 ∨ y = 17)) ∨ (ow = 0 ∧ ¬ (y = 16 ∨ y = 17)) → (y = 18 → nn = S.2.2.2.2.2 ∧ 1 ≤ S.2.2.2.1) → (y ≠ 18 → nn = S.2.2.2.2.2 + 1) → (y = 16 ∨ y = 17 → S.2.2.2.1 < 3) → S.2.1 < 60 → MP σ2 B L S nn g f' → (y = 18 → g = stp 18 0 0 0) → Ch dmT σ σ2 → dStep B L tn mn a b S = dNx B L S y g f' → J 197 [.inr (.inr (46, 0)), .inl (Int32.ofInt y), .inl (Int32.ofInt (S.2.1 : Int)), .inl (Int32.ofInt (1957 + 6 * (S.2.1 : Int))), .inl (Int32.ofInt ow), v5] [] σ2 := by
    intro ow g f' nn σ2 v5 how n1 n2 n3 s60 hm2 hg f2 e2
    refine hJ _ _ _ _ ?_
    conv => whnf
    refine ⟨fun c1 => ?_, fun c1 => ?_⟩ <;> (try simp (disch := omega) only [oi_le, oi_lt, oi_eq, oi_lt0, oi_le0, oi_0lt, oi_0le, oi_eq0, oi_eq1, bI_eq0, bI_ne0, bI_eq1, decide_eq_true_eq, decide_eq_false_iff_not, lc_lt, lc_gt, lc_eq, lc_ge, lc_le, ol_lt, ol_eq, ne_eq, Int.not_lt, Int.not_le, Bool.not_eq_true, Bool.not_eq_false, Decidable.not_not, not_true_eq_false, not_false_eq_true, Bool.true_eq_false, Bool.false_eq_true] at c1) <;> (first | (exfalso; omega) | ((with_reducible refine hJ _ _ _ _ ?_); conv => whnf) | (conv => whnf))
    · by_cases c18 : y = 18
      · obtain ⟨nn1, o1⟩ := n1 c18
        subst nn1
        have hg := hg c18
        subst hg
        have tl := hk8 (S.2.2.2.1 - 1) (by omega)
        refine ⟨fun c2 => ?_, fun c2 => ?_⟩ <;> (try simp (disch := omega) only [oi_le, oi_lt, oi_eq, oi_lt0, oi_le0, oi_0lt, oi_0le, oi_eq0, oi_eq1, bI_eq0, bI_ne0, bI_eq1, decide_eq_true_eq, decide_eq_false_iff_not, lc_lt, lc_gt, lc_eq, lc_ge, lc_le, ol_lt, ol_eq, ne_eq, Int.not_lt, Int.not_le, Bool.not_eq_true, Bool.not_eq_false, Decidable.not_not, not_true_eq_false, not_false_eq_true, Bool.true_eq_false, Bool.false_eq_true] at c2) <;> (first | (exfalso; omega) | ((with_reducible refine hJ _ _ _ _ ?_); conv => whnf) | (conv => whnf))
        rw [hm2.2.2.1, oi_sub, oi_add, wI_16]
        refine ⟨(oi_in (by omega) (by omega)).mpr ⟨by omega, by omega⟩, ?_⟩
        conv => whnf
        rw [show (Int32.ofInt ((S.2.2.2.1 : Int) - 1)).toNatClampNeg = S.2.2.2.1 - 1 by rw [oi_nat (by omega) (by omega)]; omega, show (wI σ2 46 0 22 (Int32.ofInt ((S.2.2.2.1 : Int) - 1))).1 54 0 (S.2.2.2.1 - 1) = Int32.ofInt ((S.2.2.2.2.1 (S.2.2.2.1 - 1) : Nat) : Int) by rw [wI1, if_neg (by omega)]; exact hm2.2.2.2.2.1 _ (by omega)]
        refine ⟨(oi_in (by omega) (by omega)).mpr ⟨by omega, by omega⟩, ?_⟩
        conv => whnf
        rw [show (Int32.ofInt (1957 + 6 * (S.2.1 : Int) + 4)).toNatClampNeg = 1957 + 6 * S.2.1 + 4 by rw [oi_nat (by omega) (by omega)]; omega]
        have e22 : (wI (wI σ2 46 0 22 (Int32.ofInt ((S.2.2.2.1 : Int) - 1))) 47 0 (1957 + 6 * S.2.1 + 4) (Int32.ofInt ((S.2.2.2.2.1 (S.2.2.2.1 - 1) : Nat) : Int))).1 46 0 22 = Int32.ofInt ((S.2.2.2.1 : Int) - 1) := by rw [wI1, if_neg (by omega), wI_16]
        have e54 : (wI (wI σ2 46 0 22 (Int32.ofInt ((S.2.2.2.1 : Int) - 1))) 47 0 (1957 + 6 * S.2.1 + 4) (Int32.ofInt ((S.2.2.2.2.1 (S.2.2.2.1 - 1) : Nat) : Int))).1 54 0 (S.2.2.2.1 - 1) = Int32.ofInt ((S.2.2.2.2.1 (S.2.2.2.1 - 1) : Nat) : Int) := by rw [wI1, if_neg (by omega), wI1, if_neg (by omega)]; exact hm2.2.2.2.2.1 _ (by omega)
        rw [e22]
        refine ⟨(oi_in (by omega) (by omega)).mpr ⟨by omega, by omega⟩, ?_⟩
        conv => whnf
        rw [show (Int32.ofInt ((S.2.2.2.1 : Int) - 1)).toNatClampNeg = S.2.2.2.1 - 1 by rw [oi_nat (by omega) (by omega)]; omega, e54, oi_mul, oi_add, oi_add]
        refine ⟨(oi_in (by omega) (by omega)).mpr ⟨by omega, by omega⟩, ?_⟩
        conv => whnf
        rw [oi_nat (by omega) (by omega), show (1957 + 6 * ((S.2.2.2.2.1 (S.2.2.2.1 - 1) : Nat) : Int) + 4).toNat = 1957 + 6 * S.2.2.2.2.1 (S.2.2.2.1 - 1) + 4 by omega]
        refine at279 (dEnd S f') _ _ _ (hm2.end o1 hk8) (((f2.tr (Ch.wI (Or.inl ⟨rfl, rfl, by omega⟩))).tr (Ch.wI (Or.inr (Or.inl ⟨rfl, rfl, by omega, by omega⟩)))).tr (Ch.wI (Or.inr (Or.inl ⟨rfl, rfl, by omega, by omega⟩)))) ?_
        rw [e2]
        unfold dNx
        rw [if_neg (by omega), if_pos c18]
      · have nn1 := n2 c18
        subst nn1
        refine ⟨fun c2 => ?_, fun c2 => ?_⟩ <;> (try simp (disch := omega) only [oi_le, oi_lt, oi_eq, oi_lt0, oi_le0, oi_0lt, oi_0le, oi_eq0, oi_eq1, bI_eq0, bI_ne0, bI_eq1, decide_eq_true_eq, decide_eq_false_iff_not, lc_lt, lc_gt, lc_eq, lc_ge, lc_le, ol_lt, ol_eq, ne_eq, Int.not_lt, Int.not_le, Bool.not_eq_true, Bool.not_eq_false, Decidable.not_not, not_true_eq_false, not_false_eq_true, Bool.true_eq_false, Bool.false_eq_true] at c2) <;> (first | (exfalso; omega) | ((fail_if_success with_reducible refine hJ _ _ _ _ ?_); conv => whnf) | skip)
        refine at279 (dAdd S f' g) _ _ _ hm2.add f2 ?_
        rw [e2]
        unfold dNx
        rw [if_neg (by omega), if_neg c18]
    · have nn1 := n2 (by omega)
      subst nn1
      have o3 := n3 (by omega)
      rw [hm2.2.2.1]
      refine ⟨(oi_in (by omega) (by omega)).mpr ⟨by omega, by omega⟩, ?_⟩
      conv => whnf
      rw [oi_nat (by omega) (by omega), Int.toNat_natCast, wI1, if_neg (by omega), hm2.2.2.1, oi_add]
      refine hJ _ _ _ _ ?_
      conv => whnf
      refine ⟨fun c2 => ?_, fun c2 => ?_⟩ <;> (try simp (disch := omega) only [oi_le, oi_lt, oi_eq, oi_lt0, oi_le0, oi_0lt, oi_0le, oi_eq0, oi_eq1, bI_eq0, bI_ne0, bI_eq1, decide_eq_true_eq, decide_eq_false_iff_not, lc_lt, lc_gt, lc_eq, lc_ge, lc_le, ol_lt, ol_eq, ne_eq, Int.not_lt, Int.not_le, Bool.not_eq_true, Bool.not_eq_false, Decidable.not_not, not_true_eq_false, not_false_eq_true, Bool.true_eq_false, Bool.false_eq_true] at c2) <;> (first | (exfalso; omega) | ((fail_if_success with_reducible refine hJ _ _ _ _ ?_); conv => whnf) | skip)
      refine at279 (dOpn S f' g) _ _ _ hm2.opn ((f2.tr (Ch.wI (Or.inr (Or.inr ⟨rfl, rfl⟩)))).tr (Ch.wI (Or.inl ⟨rfl, rfl, by omega⟩))) ?_
      rw [e2]
      unfold dNx
      rw [if_pos (by omega)]
  have at133 : ∀ (ow dn : Int) (nn : Nat), 11 ≤ y → y ≤ 19 → (ow = 1 ∧ (y = 16 ∨ y = 17)) ∨ (ow = 0 ∧ ¬ (y = 16 ∨ y = 17)) → (y = 18 → nn = S.2.2.2.2.2 ∧ 1 ≤ S.2.2.2.1) → (y ≠ 18 → nn = S.2.2.2.2.2 + 1 ∧ S.2.2.2.2.2 < 30) → (y = 16 ∨ y = 17 → S.2.2.2.1 < 3) → (S.2.2.2.2.2 : Int) + dn = (nn : Int) → J 133 [.inr (.inr (46, 0)), .inl (Int32.ofInt y), .inl (Int32.ofInt (S.2.1 : Int)), .inl (Int32.ofInt (1957 + 6 * (S.2.1 : Int))), .inl (Int32.ofInt ow), unset] [.inl (Int32.ofInt dn), .inl (Int32.ofInt (S.2.2.2.2.2 : Int)), .inr (.inr (46, 0))] σ := by
    intro ow dn nn y1 y2 how n1 n2 n3 hdn
    have s60 : S.2.1 < 60 := by
      by_cases c : y = 18
      · have := n1 c; omega
      · have := n2 c; omega
    have ord : dStep B L tn mn a b S = dOrd B L tn mn a b y (nxT B L S.1) (dNx B L S y) := by
      have e := dStep_ord (B := B) (L := L) (a := a) (b := b) (tn := tn) (mn := mn) (S := S) (by omega) (by omega) (fun z => by have := n1 (by omega); omega) (fun z => (n2 (by omega)).2) (fun z => n3 (by omega))
      rw [hy] at e
      exact e
    have loop : ∀ (m i : Nat) (σ1 : AM), i + m = 6 → 1 ≤ i → Ch (fun t i j => (t = 46 ∧ i = 0 ∧ j = 23) ∨ (t = 47 ∧ i = 0 ∧ 1957 + 6 * S.2.1 ≤ j ∧ j < 1957 + 6 * S.2.1 + 6)) σ σ1 → σ1.1 46 0 23 = Int32.ofInt (nn : Int) → (∀ j, j < i → σ1.1 47 0 (1957 + 6 * S.2.1 + j) = Int32.ofInt (stp y 0 0 0 j)) → J 147 [.inr (.inr (46, 0)), .inl (Int32.ofInt y), .inl (Int32.ofInt (S.2.1 : Int)), .inl (Int32.ofInt (1957 + 6 * (S.2.1 : Int))), .inl (Int32.ofInt ow), .inl (Int32.ofInt (i : Int))] [] σ1 := by
      intro m
      induction m with
      | zero =>
        intro i σ1 hi hi1 f1 e23 ej
        refine hJ _ _ _ _ ?_
        conv => whnf
        refine ⟨fun c1 => ?_, fun c1 => ?_⟩ <;> (try simp (disch := omega) only [oi_le, oi_lt, oi_eq, oi_lt0, oi_le0, oi_0lt, oi_0le, oi_eq0, oi_eq1, bI_eq0, bI_ne0, bI_eq1, decide_eq_true_eq, decide_eq_false_iff_not, lc_lt, lc_gt, lc_eq, lc_ge, lc_le, ol_lt, ol_eq, ne_eq, Int.not_lt, Int.not_le, Bool.not_eq_true, Bool.not_eq_false, Decidable.not_not, not_true_eq_false, not_false_eq_true, Bool.true_eq_false, Bool.false_eq_true] at c1) <;> (first | (exfalso; omega) | ((with_reducible refine hJ _ _ _ _ ?_); conv => whnf) | (conv => whnf))
        refine ⟨(oi_in (by omega) (by omega)).mpr ⟨by omega, by omega⟩, ?_⟩
        conv => whnf
        rw [show (Int32.ofInt 1870).toNatClampNeg = 1870 from rfl, f1.1 47 0 1870 (by omega), q2, oi_add]
        refine ⟨(oi_in (by omega) (by omega)).mpr ⟨by omega, by omega⟩, ?_⟩
        conv => whnf
        have f2 : Ch (fun t i j => (t = 46 ∧ i = 0 ∧ j = 23) ∨ (t = 47 ∧ i = 0 ∧ (j = 1870 ∨ (1957 + 6 * S.2.1 ≤ j ∧ j < 1957 + 6 * S.2.1 + 6)))) σ (wI σ1 47 0 1870 (Int32.ofInt ((S.2.1 : Int) + 1))) := (f1.mo (fun t i j z => by omega)).tr (Ch.wI (Or.inr ⟨rfl, rfl, Or.inl rfl⟩))
        have hm2 : MP (wI σ1 47 0 1870 (Int32.ofInt ((S.2.1 : Int) + 1))) B L S nn (stp y 0 0 0) S.1 := by
          refine ⟨q1.ch f2.1 (fun j _ _ z => by omega) (fun j z => by omega), wI_16, by rw [f2.1 _ _ _ (by omega)]; exact q3, by rw [wI1, if_neg (by omega)]; exact e23, fun i hi => by rw [f2.1 _ _ _ (by omega)]; exact q5 i hi, fun k hk j hj => by rw [f2.1 _ _ _ (by omega)]; exact q6 k hk j hj, fun j hj => by rw [wI1, if_neg (by omega)]; exact ej j (by omega), by rw [f2.1 _ _ _ (by omega)]; exact q7⟩
        have f2d : Ch dmT σ (wI σ1 47 0 1870 (Int32.ofInt ((S.2.1 : Int) + 1))) := f2.mo (fun t i j z => by unfold dmT; omega)
        revert hm2 f2d
        generalize wI σ1 47 0 1870 (Int32.ofInt ((S.2.1 : Int) + 1)) = τ
        intro hm2 f2d
        refine s_m_adv hC hm2.1 (fun σ3 k1 k2 => ?_)
        conv => whnf
        have f3 := f2d.tr (tm_dm k2)
        refine m_dorder hC (k := dNx B L S y) (hm2.tk k2 k1) (hn.ch f3) rfl s60 y1 y2 (fun g f' σ4 hm4 hg f4 e4 => ?_) (fun σ4 o4 f4 => ?_)
        · conv => whnf
          refine ⟨fun c2 => ?_, fun c2 => ?_⟩ <;> (try simp (disch := omega) only [oi_le, oi_lt, oi_eq, oi_lt0, oi_le0, oi_0lt, oi_0le, oi_eq0, oi_eq1, bI_eq0, bI_ne0, bI_eq1, decide_eq_true_eq, decide_eq_false_iff_not, lc_lt, lc_gt, lc_eq, lc_ge, lc_le, ol_lt, ol_eq, ne_eq, Int.not_lt, Int.not_le, Bool.not_eq_true, Bool.not_eq_false, Decidable.not_not, not_true_eq_false, not_false_eq_true, Bool.true_eq_false, Bool.false_eq_true] at c2) <;> (first | (exfalso; omega) | ((fail_if_success with_reducible refine hJ _ _ _ _ ?_); conv => whnf) | skip)
          exact at197 ow g f' nn σ4 _ how n1 (fun z => (n2 z).1) n3 s60 hm4 hg (f3.tr f4) (ord.trans e4)
        · conv => whnf
          refine ⟨fun c2 => ?_, fun c2 => ?_⟩ <;> (try simp (disch := omega) only [oi_le, oi_lt, oi_eq, oi_lt0, oi_le0, oi_0lt, oi_0le, oi_eq0, oi_eq1, bI_eq0, bI_ne0, bI_eq1, decide_eq_true_eq, decide_eq_false_iff_not, lc_lt, lc_gt, lc_eq, lc_ge, lc_le, ol_lt, ol_eq, ne_eq, Int.not_lt, Int.not_le, Bool.not_eq_true, Bool.not_eq_false, Decidable.not_not, not_true_eq_false, not_false_eq_true, Bool.true_eq_false, Bool.false_eq_true] at c2) <;> (first | (exfalso; omega) | ((with_reducible refine hJ _ _ _ _ ?_); conv => whnf) | (conv => whnf))
          exact ⟨Or.inl rfl, h false σ4 (by rw [ord]; exact o4) (f3.tr f4)⟩
      | succ m ih =>
        intro i σ1 hi hi1 f1 e23 ej
        refine hJ _ _ _ _ ?_
        conv => whnf
        refine ⟨fun c1 => ?_, fun c1 => ?_⟩ <;> (try simp (disch := omega) only [oi_le, oi_lt, oi_eq, oi_lt0, oi_le0, oi_0lt, oi_0le, oi_eq0, oi_eq1, bI_eq0, bI_ne0, bI_eq1, decide_eq_true_eq, decide_eq_false_iff_not, lc_lt, lc_gt, lc_eq, lc_ge, lc_le, ol_lt, ol_eq, ne_eq, Int.not_lt, Int.not_le, Bool.not_eq_true, Bool.not_eq_false, Decidable.not_not, not_true_eq_false, not_false_eq_true, Bool.true_eq_false, Bool.false_eq_true] at c1) <;> (first | (exfalso; omega) | ((with_reducible refine hJ _ _ _ _ ?_); conv => whnf) | (conv => whnf))
        rw [oi_add]
        refine ⟨(oi_in (by omega) (by omega)).mpr ⟨by omega, by omega⟩, ?_⟩
        conv => whnf
        rw [oi_nat (by omega) (by omega), show (1957 + 6 * (S.2.1 : Int) + (i : Int)).toNat = 1957 + 6 * S.2.1 + i by omega, oi_add]
        refine ih (i + 1) _ (by omega) (by omega) (f1.tr (Ch.wI (Or.inr ⟨rfl, rfl, by omega, by omega⟩))) (by rw [wI1, if_neg (by omega)]; exact e23) (fun j hj => ?_)
        by_cases c : j = i
        · rw [c, wI_16]
          congr 1
          unfold stp
          rw [if_neg (by omega)]
          split
          · rfl
          · split
            · rfl
            · split <;> rfl
        · rw [wI1, if_neg (by omega)]; exact ej j (by omega)
    refine hJ _ _ _ _ ?_
    conv => whnf
    rw [oi_add, hdn]
    refine ⟨(oi_in (by omega) (by omega)).mpr ⟨by omega, by omega⟩, ?_⟩
    conv => whnf
    rw [oi_nat (by omega) (by omega), show (1957 + 6 * (S.2.1 : Int)).toNat = 1957 + 6 * S.2.1 by omega]
    refine loop 5 1 _ (by omega) (by omega) ((Ch.wI (Or.inl ⟨rfl, rfl, rfl⟩)).tr (Ch.wI (Or.inr ⟨rfl, rfl, by omega, by omega⟩))) (by rw [wI1, if_neg (by omega), wI_16]) (fun j hj => ?_)
    have : j = 0 := by omega
    subst this
    exact wI_16
  have at75 : ∀ ow : Int, 11 ≤ y → y ≤ 19 → (y = 18 → S.2.2.2.1 ≠ 0) → (ow = 1 ∧ (y = 16 ∨ y = 17)) ∨ (ow = 0 ∧ ¬ (y = 16 ∨ y = 17)) → J 75 [.inr (.inr (46, 0)), .inl (Int32.ofInt y), .inl (Int32.ofInt (S.2.1 : Int)), .inl (Int32.ofInt (1957 + 6 * (S.2.1 : Int))), .inl (Int32.ofInt ow), unset] [] σ := by
    intro ow y1 y2 y3 how
    have at117 : (y ≠ 18 → S.2.2.2.2.2 < 30) → (y = 16 ∨ y = 17 → S.2.2.2.1 < 3) → J 117 [.inr (.inr (46, 0)), .inl (Int32.ofInt y), .inl (Int32.ofInt (S.2.1 : Int)), .inl (Int32.ofInt (1957 + 6 * (S.2.1 : Int))), .inl (Int32.ofInt ow), unset] [] σ := by
      intro n1 n2
      refine hJ _ _ _ _ ?_
      conv => whnf
      rw [q4]
      refine ⟨fun c1 => ?_, fun c1 => ?_⟩ <;> (try simp (disch := omega) only [oi_le, oi_lt, oi_eq, oi_lt0, oi_le0, oi_0lt, oi_0le, oi_eq0, oi_eq1, bI_eq0, bI_ne0, bI_eq1, decide_eq_true_eq, decide_eq_false_iff_not, lc_lt, lc_gt, lc_eq, lc_ge, lc_le, ol_lt, ol_eq, ne_eq, Int.not_lt, Int.not_le, Bool.not_eq_true, Bool.not_eq_false, Decidable.not_not, not_true_eq_false, not_false_eq_true, Bool.true_eq_false, Bool.false_eq_true] at c1) <;> (first | (exfalso; omega) | ((with_reducible refine hJ _ _ _ _ ?_); conv => whnf) | (conv => whnf))
      · exact at133 ow 1 (S.2.2.2.2.2 + 1) y1 y2 how (fun z => absurd z c1) (fun z => ⟨rfl, n1 z⟩) n2 (by omega)
      · exact at133 ow 0 S.2.2.2.2.2 y1 y2 how (fun z => ⟨rfl, by have := y3 z; omega⟩) (fun z => absurd c1 z) n2 (by omega)
    have at97 : (y ≠ 18 → S.2.2.2.2.2 < 30) → J 97 [.inr (.inr (46, 0)), .inl (Int32.ofInt y), .inl (Int32.ofInt (S.2.1 : Int)), .inl (Int32.ofInt (1957 + 6 * (S.2.1 : Int))), .inl (Int32.ofInt ow), unset] [] σ := by
      intro n1
      refine hJ _ _ _ _ ?_
      conv => whnf
      refine ⟨fun c1 => ?_, fun c1 => ?_⟩ <;> (try simp (disch := omega) only [oi_le, oi_lt, oi_eq, oi_lt0, oi_le0, oi_0lt, oi_0le, oi_eq0, oi_eq1, bI_eq0, bI_ne0, bI_eq1, decide_eq_true_eq, decide_eq_false_iff_not, lc_lt, lc_gt, lc_eq, lc_ge, lc_le, ol_lt, ol_eq, ne_eq, Int.not_lt, Int.not_le, Bool.not_eq_true, Bool.not_eq_false, Decidable.not_not, not_true_eq_false, not_false_eq_true, Bool.true_eq_false, Bool.false_eq_true] at c1) <;> (first | (exfalso; omega) | ((fail_if_success with_reducible refine hJ _ _ _ _ ?_); conv => whnf) | skip)
      · exact at117 n1 (fun z => by omega)
      · rw [q3]
        refine ⟨fun c2 => ?_, fun c2 => ?_⟩ <;> (try simp (disch := omega) only [oi_le, oi_lt, oi_eq, oi_lt0, oi_le0, oi_0lt, oi_0le, oi_eq0, oi_eq1, bI_eq0, bI_ne0, bI_eq1, decide_eq_true_eq, decide_eq_false_iff_not, lc_lt, lc_gt, lc_eq, lc_ge, lc_le, ol_lt, ol_eq, ne_eq, Int.not_lt, Int.not_le, Bool.not_eq_true, Bool.not_eq_false, Decidable.not_not, not_true_eq_false, not_false_eq_true, Bool.true_eq_false, Bool.false_eq_true] at c2) <;> (first | (exfalso; omega) | ((fail_if_success with_reducible refine hJ _ _ _ _ ?_); conv => whnf) | skip)
        · exact at117 n1 (fun z => by omega)
        · refine s_m_fails hC q1.2.2.1 q1.2.2.2 ?_
          conv => whnf
          have e : dStep B L tn mn a b S = dFl B L S.1 7 := by
            unfold dStep
            have := n1 (by omega)
            rw [if_neg (by omega), if_neg (by omega), if_neg (by omega), if_pos (by omega)]
          exact ⟨Or.inl rfl, h false _ (e ▸ Om.fl (by omega) (by omega)) fM_dm⟩
    refine hJ _ _ _ _ ?_
    conv => whnf
    refine ⟨fun c1 => ?_, fun c1 => ?_⟩ <;> (try simp (disch := omega) only [oi_le, oi_lt, oi_eq, oi_lt0, oi_le0, oi_0lt, oi_0le, oi_eq0, oi_eq1, bI_eq0, bI_ne0, bI_eq1, decide_eq_true_eq, decide_eq_false_iff_not, lc_lt, lc_gt, lc_eq, lc_ge, lc_le, ol_lt, ol_eq, ne_eq, Int.not_lt, Int.not_le, Bool.not_eq_true, Bool.not_eq_false, Decidable.not_not, not_true_eq_false, not_false_eq_true, Bool.true_eq_false, Bool.false_eq_true] at c1) <;> (first | (exfalso; omega) | ((fail_if_success with_reducible refine hJ _ _ _ _ ?_); conv => whnf) | skip)
    · exact at97 (fun z => absurd c1 z)
    · rw [q4]
      refine ⟨fun c2 => ?_, fun c2 => ?_⟩ <;> (try simp (disch := omega) only [oi_le, oi_lt, oi_eq, oi_lt0, oi_le0, oi_0lt, oi_0le, oi_eq0, oi_eq1, bI_eq0, bI_ne0, bI_eq1, decide_eq_true_eq, decide_eq_false_iff_not, lc_lt, lc_gt, lc_eq, lc_ge, lc_le, ol_lt, ol_eq, ne_eq, Int.not_lt, Int.not_le, Bool.not_eq_true, Bool.not_eq_false, Decidable.not_not, not_true_eq_false, not_false_eq_true, Bool.true_eq_false, Bool.false_eq_true] at c2) <;> (first | (exfalso; omega) | ((fail_if_success with_reducible refine hJ _ _ _ _ ?_); conv => whnf) | skip)
      · exact at97 (fun _ => by omega)
      · refine s_m_fails hC q1.2.2.1 q1.2.2.2 ?_
        conv => whnf
        have e : dStep B L tn mn a b S = dFl B L S.1 6 := by
          unfold dStep
          rw [if_neg (by omega), if_neg (by omega), if_pos (by omega)]
        exact ⟨Or.inl rfl, h false _ (e ▸ Om.fl (by omega) (by omega)) fM_dm⟩
  have at42 : ∀ ow : Int, (ow = 1 ∧ (y = 16 ∨ y = 17)) ∨ (ow = 0 ∧ ¬ (y = 16 ∨ y = 17)) → J 42 [.inr (.inr (46, 0)), .inl (Int32.ofInt y), .inl (Int32.ofInt (S.2.1 : Int)), .inl (Int32.ofInt (1957 + 6 * (S.2.1 : Int))), unset, unset] [.inl (Int32.ofInt ow)] σ := by
    intro ow how
    refine hJ _ _ _ _ ?_
    conv => whnf
    refine ⟨fun c1 => ?_, fun c1 => ?_⟩ <;> (try simp (disch := omega) only [oi_le, oi_lt, oi_eq, oi_lt0, oi_le0, oi_0lt, oi_0le, oi_eq0, oi_eq1, bI_eq0, bI_ne0, bI_eq1, decide_eq_true_eq, decide_eq_false_iff_not, lc_lt, lc_gt, lc_eq, lc_ge, lc_le, ol_lt, ol_eq, ne_eq, Int.not_lt, Int.not_le, Bool.not_eq_true, Bool.not_eq_false, Decidable.not_not, not_true_eq_false, not_false_eq_true, Bool.true_eq_false, Bool.false_eq_true] at c1) <;> (first | (exfalso; omega) | ((fail_if_success with_reducible refine hJ _ _ _ _ ?_); conv => whnf) | skip)
    · exact at69 (if_pos (by omega)) _
    refine ⟨fun c2 => ?_, fun c2 => ?_⟩ <;> (try simp (disch := omega) only [oi_le, oi_lt, oi_eq, oi_lt0, oi_le0, oi_0lt, oi_0le, oi_eq0, oi_eq1, bI_eq0, bI_ne0, bI_eq1, decide_eq_true_eq, decide_eq_false_iff_not, lc_lt, lc_gt, lc_eq, lc_ge, lc_le, ol_lt, ol_eq, ne_eq, Int.not_lt, Int.not_le, Bool.not_eq_true, Bool.not_eq_false, Decidable.not_not, not_true_eq_false, not_false_eq_true, Bool.true_eq_false, Bool.false_eq_true] at c2) <;> (first | (exfalso; omega) | ((fail_if_success with_reducible refine hJ _ _ _ _ ?_); conv => whnf) | skip)
    · exact at69 (if_pos (by omega)) _
    refine ⟨fun c3 => ?_, fun c3 => ?_⟩ <;> (try simp (disch := omega) only [oi_le, oi_lt, oi_eq, oi_lt0, oi_le0, oi_0lt, oi_0le, oi_eq0, oi_eq1, bI_eq0, bI_ne0, bI_eq1, decide_eq_true_eq, decide_eq_false_iff_not, lc_lt, lc_gt, lc_eq, lc_ge, lc_le, ol_lt, ol_eq, ne_eq, Int.not_lt, Int.not_le, Bool.not_eq_true, Bool.not_eq_false, Decidable.not_not, not_true_eq_false, not_false_eq_true, Bool.true_eq_false, Bool.false_eq_true] at c3) <;> (first | (exfalso; omega) | ((fail_if_success with_reducible refine hJ _ _ _ _ ?_); conv => whnf) | skip)
    · exact at75 ow (by omega) (by omega) (fun z => absurd z c3) how
    · rw [q3]
      refine ⟨fun c4 => ?_, fun c4 => ?_⟩ <;> (try simp (disch := omega) only [oi_le, oi_lt, oi_eq, oi_lt0, oi_le0, oi_0lt, oi_0le, oi_eq0, oi_eq1, bI_eq0, bI_ne0, bI_eq1, decide_eq_true_eq, decide_eq_false_iff_not, lc_lt, lc_gt, lc_eq, lc_ge, lc_le, ol_lt, ol_eq, ne_eq, Int.not_lt, Int.not_le, Bool.not_eq_true, Bool.not_eq_false, Decidable.not_not, not_true_eq_false, not_false_eq_true, Bool.true_eq_false, Bool.false_eq_true] at c4) <;> (first | (exfalso; omega) | ((fail_if_success with_reducible refine hJ _ _ _ _ ?_); conv => whnf) | skip)
      · exact at75 ow (by omega) (by omega) (fun _ => by omega) how
      · exact at69 (if_pos (by omega)) _
  refine ⟨fun c1 => ?_, fun c1 => ?_⟩ <;> (try simp (disch := omega) only [oi_le, oi_lt, oi_eq, oi_lt0, oi_le0, oi_0lt, oi_0le, oi_eq0, oi_eq1, bI_eq0, bI_ne0, bI_eq1, decide_eq_true_eq, decide_eq_false_iff_not, lc_lt, lc_gt, lc_eq, lc_ge, lc_le, ol_lt, ol_eq, ne_eq, Int.not_lt, Int.not_le, Bool.not_eq_true, Bool.not_eq_false, Decidable.not_not, not_true_eq_false, not_false_eq_true, Bool.true_eq_false, Bool.false_eq_true] at c1) <;> (first | (exfalso; omega) | ((fail_if_success with_reducible refine hJ _ _ _ _ ?_); conv => whnf) | skip)
  · refine hJ _ _ _ _ ?_
    conv => whnf
    exact at42 1 (by omega)
  · refine ⟨fun c2 => ?_, fun c2 => ?_⟩ <;> (try simp (disch := omega) only [oi_le, oi_lt, oi_eq, oi_lt0, oi_le0, oi_0lt, oi_0le, oi_eq0, oi_eq1, bI_eq0, bI_ne0, bI_eq1, decide_eq_true_eq, decide_eq_false_iff_not, lc_lt, lc_gt, lc_eq, lc_ge, lc_le, ol_lt, ol_eq, ne_eq, Int.not_lt, Int.not_le, Bool.not_eq_true, Bool.not_eq_false, Decidable.not_not, not_true_eq_false, not_false_eq_true, Bool.true_eq_false, Bool.false_eq_true] at c2) <;> (first | (exfalso; omega) | ((fail_if_success with_reducible refine hJ _ _ _ _ ?_); conv => whnf) | skip)
    · refine hJ _ _ _ _ ?_
      conv => whnf
      exact at42 0 (by omega)
    · refine hJ _ _ _ _ ?_
      conv => whnf
      exact at42 1 (by omega)
