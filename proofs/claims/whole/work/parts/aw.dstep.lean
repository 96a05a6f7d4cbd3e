theorem dSemi_ok {B : Nat → Int} {L : Nat} {S S' : DZ} (h : dSemi B L S = .inl S') : S' = (nxT B L S.1, S.2) := by
  unfold dSemi at h
  split at h
  · exact (Sum.inl.inj h).symm
  · cases h
theorem dNum_ok {B : Nat → Int} {L f : Nat} {lo hi : Int} {k : Int → Nat → Rd} {S' : DZ} (h : dNum B L lo hi f k = .inl S') : ∃ v : Int, lo ≤ v ∧ v ≤ hi ∧ k v (nxT B L f) = .inl S' := by
  unfold dNum at h
  split at h
  · cases h
  · split at h
    · cases h
    · exact ⟨vlT B L f, by omega, by omega, h⟩
theorem dOld_ok {B : Nat → Int} {L c f : Nat} {tn : Nat → List Nat} {k : Nat → Nat → Rd} {S' : DZ} (h : dOld B L tn c f k = .inl S') : ∃ t : Nat, t < c ∧ k t (nxT B L f) = .inl S' := by
  unfold dOld at h
  split at h
  · cases h
  · cases ef : fnW tn c (wdH B L f) with
    | none => rw [ef] at h; cases h
    | some t => rw [ef] at h; exact ⟨t, fnW_lt ef, h⟩
theorem dCmp_ok {B : Nat → Int} {L f : Nat} {k : Int → Nat → Rd} {S' : DZ} (hB : BOk B L) (hf : f ≤ L) (h : dCmp B L f k = .inl S') : ∃ sg : Int, sgOk sg ∧ k sg (nxT B L f) = .inl S' := by
  unfold dCmp at h
  split at h
  · rename_i e
    have := (vlT_bd hB hf).2 e.1
    exact ⟨vlT B L f, by unfold sgOk; omega, h⟩
  · cases h
theorem dTest_ok {B : Nat → Int} {L f : Nat} {tn mn : Nat → List Nat} {a b : Nat} {k : (Nat → Int) → Nat → Rd} {S' : DZ} (hB : BOk B L) (hf : f ≤ L) (h : dTest B L tn mn a b f k = .inl S') : ∃ (g : Nat → Int) (f' : Nat), StepOk (a : Int) (b : Int) g ∧ isOp (g 0) ∧ g 0 ≠ 18 ∧ f ≤ f' ∧ f' ≤ L ∧ k g f' = .inl S' := by
  have n1 := nxT_ok (B := B) hf
  have n2 := nxT_ok (B := B) n1.1
  have n3 := nxT_ok (B := B) n2.1
  have n4 := nxT_ok (B := B) n3.1
  unfold dTest at h
  split at h
  · cases h
  split at h
  · obtain ⟨t, t1, h⟩ := dOld_ok h
    exact ⟨_, _, Or.inr (Or.inr (Or.inr (Or.inr (Or.inr (Or.inr (Or.inl ⟨rfl, by show (0 : Int) ≤ (t : Int); omega, by show (t : Int) < (b : Int); omega⟩)))))), Or.inr (by show (1600 : Int) ≤ 1620; omega), by show (1620 : Int) ≠ 18; omega, by omega, n2.1, h⟩
  split at h
  · obtain ⟨t, t1, h⟩ := dOld_ok h
    exact ⟨_, _, Or.inr (Or.inr (Or.inr (Or.inr (Or.inr (Or.inr (Or.inr (Or.inl ⟨rfl, by show (0 : Int) ≤ (t : Int); omega, by show (t : Int) < (a : Int); omega⟩))))))), Or.inr (by show (1600 : Int) ≤ 1621; omega), by show (1621 : Int) ≠ 18; omega, by omega, n2.1, h⟩
  split at h
  · obtain ⟨t, t1, h⟩ := dOld_ok h
    obtain ⟨sg, s1, h⟩ := dCmp_ok hB n2.1 h
    obtain ⟨v, v1, v2, h⟩ := dNum_ok h
    exact ⟨_, _, Or.inr (Or.inr (Or.inr (Or.inr (Or.inr (Or.inr (Or.inr (Or.inr (Or.inl ⟨rfl, by show (0 : Int) ≤ (t : Int); omega, by show (t : Int) < (b : Int); omega, v1, v2, s1⟩)))))))), Or.inr (by show (1600 : Int) ≤ 1608; omega), by show (1608 : Int) ≠ 18; omega, by omega, n4.1, h⟩
  · obtain ⟨sg, s1, h⟩ := dCmp_ok hB n1.1 h
    obtain ⟨v, v1, v2, h⟩ := dNum_ok h
    exact ⟨_, _, Or.inr (Or.inr (Or.inr (Or.inr (Or.inr (Or.inr (Or.inr (Or.inr (Or.inr ⟨rfl, v1, v2, s1⟩)))))))), Or.inr (by show (1600 : Int) ≤ 1622; omega), by show (1622 : Int) ≠ 18; omega, by omega, n3.1, h⟩
theorem dStep_ok {B : Nat → Int} {L : Nat} {tn mn : Nat → List Nat} {a b : Nat} {S S' : DZ} {dep : Nat → Nat} (hB : BOk B L) (hp : DI (a : Int) (b : Int) L S dep) (h : dStep B L tn mn a b S = .inl S') : (∃ dep', DI (a : Int) (b : Int) L S' dep') ∧ S.1 < S'.1 := by
  have hl := hp.1
  have n1 := nxT_ok (B := B) hl
  have n2 := nxT_ok (B := B) n1.1
  have n3 := nxT_ok (B := B) n2.1
  unfold dStep at h
  split at h
  · cases h
  rename_i c0
  have hin : S.1 < L := kwT_in (B := B) (by omega)
  have n1s := n1.2.2 hin
  split at h
  · have h := dSemi_ok h
    subst h
    exact ⟨⟨_, (hp.end n1.1 (by omega)).at n2.1⟩, by show S.1 < nxT B L (nxT B L S.1); omega⟩
  rename_i c1
  split at h
  · cases h
  rename_i c2
  split at h
  · cases h
  rename_i c3
  split at h
  · obtain ⟨v, v1, v2, h⟩ := dNum_ok h
    have h := dSemi_ok h
    subst h
    exact ⟨⟨_, (hp.add n2.1 (by omega) (Or.inl ⟨rfl, v1, v2⟩) (by unfold isOp; show ¬ ((11 : Int) = 17 ∨ 1600 ≤ (11 : Int)); omega) (by show (11 : Int) ≠ 18; omega)).at n3.1⟩, by show S.1 < nxT B L (nxT B L (nxT B L S.1)); omega⟩
  split at h
  · obtain ⟨v, v1, v2, h⟩ := dNum_ok h
    have h := dSemi_ok h
    subst h
    exact ⟨⟨_, (hp.opn n2.1 (by omega) (by omega) (Or.inr (Or.inr (Or.inr (Or.inl ⟨rfl, v1, v2⟩)))) (Or.inl rfl) (by show (17 : Int) ≠ 18; omega)).at n3.1⟩, by show S.1 < nxT B L (nxT B L (nxT B L S.1)); omega⟩
  split at h
  · obtain ⟨g, f', g1, g2, g3, g4, g5, h⟩ := dTest_ok hB n1.1 h
    have h := dSemi_ok h
    subst h
    have k1 := nxT_ok (B := B) g5
    exact ⟨⟨_, (hp.opn g5 (by omega) (by omega) g1 g2 g3).at k1.1⟩, by show S.1 < nxT B L f'; omega⟩
  split at h
  · rename_i c7
    have h := dSemi_ok h
    subst h
    refine ⟨⟨_, (hp.add n1.1 (by omega) ?_ (by unfold isOp; show ¬ (kwT B L S.1 = 17 ∨ 1600 ≤ kwT B L S.1); omega) (by show kwT B L S.1 ≠ 18; omega)).at n2.1⟩, by show S.1 < nxT B L (nxT B L S.1); omega⟩
    rcases c7 with c7 | c7
    · exact Or.inr (Or.inr (Or.inl c7))
    · exact Or.inr (Or.inr (Or.inr (Or.inr (Or.inr (Or.inl c7)))))
  · obtain ⟨t, t1, h⟩ := dOld_ok h
    have h := dSemi_ok h
    subst h
    refine ⟨⟨_, (hp.add n2.1 (by omega) (Or.inr (Or.inl ⟨?_, by show (0 : Int) ≤ (t : Int); omega, by show (t : Int) < (b : Int); omega⟩)) (by unfold isOp; show ¬ (kwT B L S.1 = 17 ∨ 1600 ≤ kwT B L S.1); omega) (by show kwT B L S.1 ≠ 18; omega)).at n3.1⟩, by show S.1 < nxT B L (nxT B L (nxT B L S.1)); omega⟩
    show kwT B L S.1 = 12 ∨ kwT B L S.1 = 13 ∨ kwT B L S.1 = 14
    omega
theorem dAll_end {B : Nat → Int} {L n a b : Nat} {tn mn : Nat → List Nat} {S : DZ} (h : kdT B L S.1 = 0) : dAll B L tn mn a b n S = .inl S := by
  cases n with
  | zero => rfl
  | succ n => exact if_pos h
theorem dAll_go {B : Nat → Int} {L n a b : Nat} {tn mn : Nat → List Nat} {S S' : DZ} (h : kdT B L S.1 ≠ 0) (h2 : dStep B L tn mn a b S = .inl S') : dAll B L tn mn a b (n + 1) S = dAll B L tn mn a b n S' := by
  show (if kdT B L S.1 = 0 then _ else _) = _
  rw [if_neg h, h2]
theorem dAll_no {B : Nat → Int} {L n a b : Nat} {tn mn : Nat → List Nat} {S : DZ} {e : Int × Nat} (h : kdT B L S.1 ≠ 0) (h2 : dStep B L tn mn a b S = .inr e) : dAll B L tn mn a b (n + 1) S = .inr e := by
  show (if kdT B L S.1 = 0 then _ else _) = _
  rw [if_neg h, h2]
theorem dAll_ok {B : Nat → Int} {L a b : Nat} {tn mn : Nat → List Nat} (hB : BOk B L) : ∀ (n : Nat) (S S' : DZ) (dep : Nat → Nat), DI (a : Int) (b : Int) L S dep → L ≤ S.1 + n → dAll B L tn mn a b n S = .inl S' → (∃ dep', DI (a : Int) (b : Int) L S' dep') ∧ kdT B L S'.1 = 0
  | 0, S, S', dep, hp, hn, h => by
    have : S = S' := Sum.inl.inj h
    subst this
    exact ⟨⟨dep, hp⟩, (kdT_bd B L S.1).2.2.mpr (by omega)⟩
  | n + 1, S, S', dep, hp, hn, h => by
    by_cases c : kdT B L S.1 = 0
    · rw [dAll_end c] at h
      have : S = S' := Sum.inl.inj h
      subst this
      exact ⟨⟨dep, hp⟩, c⟩
    · cases e : dStep B L tn mn a b S with
      | inl T =>
        rw [dAll_go c e] at h
        obtain ⟨⟨dep', k1⟩, k2⟩ := dStep_ok hB hp e
        exact dAll_ok hB n T S' dep' k1 (by omega) h
      | inr d =>
        rw [dAll_no c e] at h
        cases h
def D0 (f : Nat) : DZ := (f, 0, fun _ _ => 0, 0, fun _ => 0, 0)
theorem D0_DI {a b : Int} {L f : Nat} (h : f ≤ L) : DI a b L (D0 f) (fun _ => 0) := by
  refine ⟨h, Nat.zero_le _, Nat.zero_le _, Nat.zero_le _, rfl, rfl, fun k _ => Nat.zero_le _, fun i hi => absurd hi (Nat.not_lt_zero i), fun k hk => absurd hk (Nat.not_lt_zero k)⟩
