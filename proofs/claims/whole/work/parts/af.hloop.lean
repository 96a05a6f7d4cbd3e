theorem rSemi_ok {B : Nat → Int} {L : Nat} {S S' : PS} (h : rSemi B L S = .inl S') : S' = (nxT B L S.1, S.2) := by
  unfold rSemi at h
  split at h
  · exact (Sum.inl.inj h).symm
  · cases h
theorem rNum_ok {B : Nat → Int} {L f : Nat} {lo hi : Int} {k : Int → Nat → Rz} {S' : PS} (h : rNum B L lo hi f k = .inl S') : ∃ v : Int, lo ≤ v ∧ v ≤ hi ∧ k v (nxT B L f) = .inl S' := by
  unfold rNum at h
  split at h
  · cases h
  · split at h
    · cases h
    · exact ⟨vlT B L f, by omega, by omega, h⟩
theorem rWord_ok {B : Nat → Int} {L n f : Nat} {k : Nat → Rz} {S' : PS} (h : rWord B L n f k = .inl S') : k (nxT B L f) = .inl S' := by
  unfold rWord at h
  split at h
  · exact h
  · cases h
theorem rOld_ok {B : Nat → Int} {L c f : Nat} {tn : Nat → List Nat} {k : Nat → Nat → Rz} {S' : PS} (h : rOld B L tn c f k = .inl S') : ∃ t : Nat, t < c ∧ isNm B L f = true ∧ fnW tn c (wdH B L f) = some t ∧ k t (nxT B L f) = .inl S' := by
  unfold rOld at h
  split at h
  · cases h
  · rename_i e
    cases ef : fnW tn c (wdH B L f) with
    | none => rw [ef] at h; cases h
    | some t => rw [ef] at h; exact ⟨t, fnW_lt ef, Bool.not_eq_false _ ▸ e, rfl, h⟩
theorem rNew_ok {B : Nat → Int} {L f : Nat} {S S' : PS} {k : Nat → Rz} (h : rNew B L S f k = .inl S') : isNm B L f = true ∧ fnW S.2.2.1 (S.2.1 0).toNat (wdH B L f) = none ∧ fnW S.2.2.2.1 (S.2.1 1).toNat (wdH B L f) = none ∧ k (nxT B L f) = .inl S' := by
  unfold rNew at h
  split at h
  · cases h
  · rename_i e
    split at h
    · cases h
    · rename_i e2
      rw [not_or, Decidable.not_not, Decidable.not_not] at e2
      exact ⟨Bool.not_eq_false _ ▸ e, e2.1, e2.2, h⟩
theorem fnW_no {tn : Nat → List Nat} {c : Nat} {w : List Nat} (h : fnW tn c w = none) : ∀ t, t < c → tn t ≠ w := by
  intro t ht z
  have := firstF_no.mp h t (by omega) (by omega)
  exact absurd z (of_decide_eq_false this)
theorem kwT_in {B : Nat → Int} {L f : Nat} (h : 0 ≤ kwT B L f) : f < L := by
  have kb := kdT_bd B L f
  unfold kwT at h
  split at h
  · rename_i e
    omega
  · omega
theorem rPart_ok {B : Nat → Int} {L : Nat} {S S' : PS} (hp : PI L S) (h : rPart B L S = .inl S') : PI L S' ∧ S.1 < S'.1 := by
  have hl := hp.1
  have n1 := nxT_ok (B := B) hl
  have n2 := nxT_ok (B := B) n1.1
  have n3 := nxT_ok (B := B) n2.1
  have n4 := nxT_ok (B := B) n3.1
  have n5 := nxT_ok (B := B) n4.1
  have n6 := nxT_ok (B := B) n5.1
  have n7 := nxT_ok (B := B) n6.1
  unfold rPart at h
  split at h
  · rename_i e
    have e := kwT_in (show 0 ≤ kwT B L S.1 by omega)
    unfold rTurn at h
    split at h
    · cases h
    obtain ⟨v, v1, v2, h⟩ := rNum_ok h
    have h := rSemi_ok h
    subst h
    exact ⟨(hp.lo (Or.inl ⟨rfl, v1, v2⟩) (Or.inl rfl)).at n3.1, by dsimp only; omega⟩
  split at h
  · rename_i e
    have e := kwT_in (show 0 ≤ kwT B L S.1 by omega)
    unfold rOdds at h
    split at h
    · cases h
    obtain ⟨v, v1, v2, h⟩ := rNum_ok h
    have h := rSemi_ok h
    subst h
    exact ⟨(hp.lo (Or.inr (Or.inl ⟨rfl, v1, v2⟩)) (Or.inr (Or.inl rfl))).at n3.1, by dsimp only; omega⟩
  split at h
  · rename_i e
    have e := kwT_in (show 0 ≤ kwT B L S.1 by omega)
    unfold rTopic at h
    split at h
    · cases h
    obtain ⟨m1, -, -, h⟩ := rNew_ok h
    have h := rWord_ok h
    obtain ⟨v, v1, v2, h⟩ := rNum_ok h
    have h := rSemi_ok h
    subst h
    have wo := isNm_ok m1 n1.1
    exact ⟨(hp.topic (by omega) v1 v2 ⟨wo.1, wo.2.1⟩).at n5.1, by dsimp only; omega⟩
  split at h
  · rename_i e
    have e := kwT_in (show 0 ≤ kwT B L S.1 by omega)
    unfold rMonk at h
    split at h
    · cases h
    obtain ⟨m1, -, m3, h⟩ := rNew_ok h
    have h := rWord_ok h
    obtain ⟨v, v1, v2, h⟩ := rNum_ok h
    have wo := isNm_ok m1 n1.1
    have wn := fnW_no m3
    have fin : ∀ (rs : Int) (f4 : Nat), 0 ≤ rs → rs ≤ 9 → f4 ≤ L → S.1 < f4 → rSemi B L (if kwT B L f4 = 10 then nxT B L f4 else f4, addM S.2.1 v rs (if kwT B L f4 = 10 then 0 else 1), S.2.2.1, upN S.2.2.2.1 (S.2.1 1).toNat (wdH B L (nxT B L S.1)), S.2.2.2.2) = .inl S' → PI L S' ∧ S.1 < S'.1 := by
      intro rs f4 r1 r2 l4 l5 h
      have h := rSemi_ok h
      subst h
      have k1 := nxT_ok (B := B) l4
      have k2 := nxT_ok (B := B) k1.1
      by_cases c : kwT B L f4 = 10
      · rw [if_pos c, if_pos c]
        exact ⟨(hp.monk (by omega) v1 v2 r1 r2 (by omega) (by omega) ⟨wo.1, wo.2.1⟩ (fun m hm => wn m (by omega))).at k2.1, by dsimp only; omega⟩
      · rw [if_neg c, if_neg c]
        exact ⟨(hp.monk (by omega) v1 v2 r1 r2 (by omega) (by omega) ⟨wo.1, wo.2.1⟩ (fun m hm => wn m (by omega))).at k1.1, by dsimp only; omega⟩
    have h : (if kwT B L (nxT B L (nxT B L (nxT B L (nxT B L S.1)))) = 9 then rNum B L 0 9 (nxT B L (nxT B L (nxT B L (nxT B L (nxT B L S.1))))) _ else _) = Sum.inl S' := h
    split at h
    · obtain ⟨rs, r1, r2, h⟩ := rNum_ok h
      exact fin rs _ r1 r2 n6.1 (by omega) h
    · exact fin 1 _ (by omega) (by omega) n4.1 (by omega) h
  split at h
  · rename_i e
    have e := kwT_in (show 0 ≤ kwT B L S.1 by omega)
    unfold rFollow at h
    obtain ⟨t, t1, -, -, h⟩ := rOld_ok h
    obtain ⟨u, u1, -, -, h⟩ := rOld_ok h
    have h := rSemi_ok h
    subst h
    exact ⟨(hp.follow t1 u1).at n4.1, by dsimp only; omega⟩
  split at h
  · rename_i e
    have e := kwT_in (show 0 ≤ kwT B L S.1 by omega)
    unfold rRoster at h
    split at h
    · cases h
    obtain ⟨t, t1, -, -, h⟩ := rOld_ok h
    obtain ⟨u, u1, -, -, h⟩ := rOld_ok h
    have h := rSemi_ok h
    subst h
    exact ⟨(hp.ent t1 u1 (by omega)).at n4.1, by dsimp only; omega⟩
  split at h
  · rename_i e
    have e := kwT_in (show 0 ≤ kwT B L S.1 by omega)
    unfold rHear at h
    obtain ⟨t, t1, -, -, h⟩ := rOld_ok h
    split at h
    · cases h
    rename_i e3
    obtain ⟨u, u1, u2, u3, h⟩ := rOld_ok h
    have h := rSemi_ok h
    subst h
    refine ⟨(hp.hear t1 u1 ?_).at n4.1, by dsimp only; omega⟩
    intro z
    subst z
    exact e3 ⟨u2, u3⟩
  · cases h
/-- all the parts -/
def rAll (B : Nat → Int) (L : Nat) : Nat → PS → Rz
  | 0, S => .inl S
  | n + 1, S => if kdT B L S.1 = 0 then .inl S else match rPart B L S with
    | .inl S' => rAll B L n S'
    | .inr e => .inr e
theorem rAll_end {B : Nat → Int} {L n : Nat} {S : PS} (h : kdT B L S.1 = 0) : rAll B L n S = .inl S := by
  cases n with
  | zero => rfl
  | succ n => exact if_pos h
theorem rAll_go {B : Nat → Int} {L n : Nat} {S S' : PS} (h : kdT B L S.1 ≠ 0) (h2 : rPart B L S = .inl S') : rAll B L (n + 1) S = rAll B L n S' := by
  show (if kdT B L S.1 = 0 then _ else _) = _
  rw [if_neg h, h2]
theorem rAll_no {B : Nat → Int} {L n : Nat} {S : PS} {e : Int × Nat} (h : kdT B L S.1 ≠ 0) (h2 : rPart B L S = .inr e) : rAll B L (n + 1) S = .inr e := by
  show (if kdT B L S.1 = 0 then _ else _) = _
  rw [if_neg h, h2]
theorem rAll_ok {B : Nat → Int} {L : Nat} : ∀ (n : Nat) (S S' : PS), PI L S → L ≤ S.1 + n → rAll B L n S = .inl S' → PI L S' ∧ kdT B L S'.1 = 0
  | 0, S, S', hp, hn, h => by
    have : S = S' := Sum.inl.inj h
    subst this
    exact ⟨hp, (kdT_bd B L S.1).2.2.mpr (by omega)⟩
  | n + 1, S, S', hp, hn, h => by
    by_cases c : kdT B L S.1 = 0
    · rw [rAll_end c] at h
      have : S = S' := Sum.inl.inj h
      subst this
      exact ⟨hp, c⟩
    · cases e : rPart B L S with
      | inl T =>
        rw [rAll_go c e] at h
        have k := rPart_ok hp e
        exact rAll_ok n T S' k.1 (by omega) h
      | inr d =>
        rw [rAll_no c e] at h
        cases h
