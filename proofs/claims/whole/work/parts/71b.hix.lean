/-- where a number of the house stands in the class -/
def hix (t j : Nat) : Nat := if t = 22 then j - 2 else if t = 23 then 0 else if t = 27 then 1 else if t = 25 then 12 + 2 * j else if t = 26 then 13 + 2 * j else if t = 29 then 24 + 7 * j else if t = 30 then 25 + 7 * j else if t = 31 then 26 + 7 * j else if t = 32 then 28 + 7 * j else if t = 33 then 29 + 7 * j else if t = 34 then 30 + 7 * j else if t = 35 then 73 + 2 * j else 74 + 2 * j
def hin (h : Nat → Int) (t j : Nat) : Prop := (t = 22 ∧ 4 ≤ j ∧ j ≤ 11) ∨ (t = 23 ∧ j = 3) ∨ (t = 27 ∧ j = 8) ∨ ((t = 25 ∨ t = 26) ∧ (j : Int) < h 0) ∨ (29 ≤ t ∧ t ≤ 34 ∧ (j : Int) < h 1) ∨ ((t = 35 ∨ t = 36) ∧ (j : Int) < h 2)
theorem hix_or (t j : Nat) : (t = 22 ∧ hix t j = j - 2) ∨ (t = 23 ∧ hix t j = 0) ∨ (t = 27 ∧ hix t j = 1) ∨ (t = 25 ∧ hix t j = 12 + 2 * j) ∨ (t = 26 ∧ hix t j = 13 + 2 * j) ∨ (t = 29 ∧ hix t j = 24 + 7 * j) ∨ (t = 30 ∧ hix t j = 25 + 7 * j) ∨ (t = 31 ∧ hix t j = 26 + 7 * j) ∨ (t = 32 ∧ hix t j = 28 + 7 * j) ∨ (t = 33 ∧ hix t j = 29 + 7 * j) ∨ (t = 34 ∧ hix t j = 30 + 7 * j) ∨ (t = 35 ∧ hix t j = 73 + 2 * j) ∨ (t ≠ 22 ∧ t ≠ 23 ∧ t ≠ 25 ∧ t ≠ 26 ∧ t ≠ 27 ∧ t ≠ 29 ∧ t ≠ 30 ∧ t ≠ 31 ∧ t ≠ 32 ∧ t ≠ 33 ∧ t ≠ 34 ∧ t ≠ 35 ∧ hix t j = 74 + 2 * j) := by
  by_cases c22 : t = 22
  · subst c22; exact Or.inl ⟨rfl, rfl⟩
  by_cases c23 : t = 23
  · subst c23; exact Or.inr (Or.inl ⟨rfl, rfl⟩)
  by_cases c27 : t = 27
  · subst c27; exact Or.inr (Or.inr (Or.inl ⟨rfl, rfl⟩))
  by_cases c25 : t = 25
  · subst c25; exact Or.inr (Or.inr (Or.inr (Or.inl ⟨rfl, rfl⟩)))
  by_cases c26 : t = 26
  · subst c26; exact Or.inr (Or.inr (Or.inr (Or.inr (Or.inl ⟨rfl, rfl⟩))))
  by_cases c29 : t = 29
  · subst c29; exact Or.inr (Or.inr (Or.inr (Or.inr (Or.inr (Or.inl ⟨rfl, rfl⟩)))))
  by_cases c30 : t = 30
  · subst c30; exact Or.inr (Or.inr (Or.inr (Or.inr (Or.inr (Or.inr (Or.inl ⟨rfl, rfl⟩))))))
  by_cases c31 : t = 31
  · subst c31; exact Or.inr (Or.inr (Or.inr (Or.inr (Or.inr (Or.inr (Or.inr (Or.inl ⟨rfl, rfl⟩)))))))
  by_cases c32 : t = 32
  · subst c32; exact Or.inr (Or.inr (Or.inr (Or.inr (Or.inr (Or.inr (Or.inr (Or.inr (Or.inl ⟨rfl, rfl⟩))))))))
  by_cases c33 : t = 33
  · subst c33; exact Or.inr (Or.inr (Or.inr (Or.inr (Or.inr (Or.inr (Or.inr (Or.inr (Or.inr (Or.inl ⟨rfl, rfl⟩)))))))))
  by_cases c34 : t = 34
  · subst c34; exact Or.inr (Or.inr (Or.inr (Or.inr (Or.inr (Or.inr (Or.inr (Or.inr (Or.inr (Or.inr (Or.inl ⟨rfl, rfl⟩))))))))))
  by_cases c35 : t = 35
  · subst c35; exact Or.inr (Or.inr (Or.inr (Or.inr (Or.inr (Or.inr (Or.inr (Or.inr (Or.inr (Or.inr (Or.inr (Or.inl ⟨rfl, rfl⟩)))))))))))
  exact Or.inr (Or.inr (Or.inr (Or.inr (Or.inr (Or.inr (Or.inr (Or.inr (Or.inr (Or.inr (Or.inr (Or.inr ⟨c22, c23, c25, c26, c27, c29, c30, c31, c32, c33, c34, c35, by unfold hix; rw [if_neg c22, if_neg c23, if_neg c27, if_neg c25, if_neg c26, if_neg c29, if_neg c30, if_neg c31, if_neg c32, if_neg c33, if_neg c34, if_neg c35]⟩)))))))))))
theorem hix_ne {h : Nat → Int} (hw : WF h) {t j a c : Nat} (h1 : hin h t j) (h2 : hin h a c) (e : hix a c = hix t j) : a = t ∧ c = j := by
  have b := hw.1
  have k1 := hix_or t j
  have k2 := hix_or a c
  unfold hin at h1 h2
  rw [e] at k2
  rcases h1 with h1 | h1 | h1 | ⟨h1 | h1, h1'⟩ | h1 | ⟨h1 | h1, h1'⟩ <;> rcases h2 with h2 | h2 | h2 | ⟨h2 | h2, h2'⟩ | h2 | ⟨h2 | h2, h2'⟩ <;> omega
theorem hix_27 {h : Nat → Int} {t j m : Nat} (hm : m < 7) (h1 : hin h t j) (hw : WF h) : 27 + 7 * m ≠ hix t j := by
  have b := hw.1
  have k1 := hix_or t j
  unfold hin at h1
  rcases h1 with h1 | h1 | h1 | ⟨h1 | h1, h1'⟩ | h1 | ⟨h1 | h1, h1'⟩ <;> omega
theorem HRep_hix {σ : AM} {n : Nat} {h : Nat → Int} : HRep σ n h ↔ ((∀ t j, hin h t j → σ.1 t n j = Int32.ofInt (h (hix t j))) ∧ σ.1 27 n 7 = Int32.ofInt (awS h)) := by
  constructor
  · rintro ⟨q0, q1, q2, q3, q4, q5, q6, q7, q8, q9, qa, qt, qm, qe⟩
    refine ⟨fun t j hi => ?_, qa⟩
    unfold hin at hi
    rcases hi with ⟨rfl, h1, h2⟩ | ⟨rfl, rfl⟩ | ⟨rfl, rfl⟩ | ⟨rfl | rfl, h1⟩ | ⟨h1, h2, h3⟩ | ⟨rfl | rfl, h1⟩
    · have : j = 4 ∨ j = 5 ∨ j = 6 ∨ j = 7 ∨ j = 8 ∨ j = 9 ∨ j = 10 ∨ j = 11 := by omega
      rcases this with rfl | rfl | rfl | rfl | rfl | rfl | rfl | rfl
      · exact q2
      · exact q3
      · exact q4
      · exact q5
      · exact q6
      · exact q7
      · exact q8
      · exact q9
    · exact q0
    · exact q1
    · exact (qt j h1).1
    · exact (qt j h1).2
    · have hm := qm j h3
      have : t = 29 ∨ t = 30 ∨ t = 31 ∨ t = 32 ∨ t = 33 ∨ t = 34 := by omega
      rcases this with rfl | rfl | rfl | rfl | rfl | rfl
      · exact hm.1
      · exact hm.2.1
      · exact hm.2.2.1
      · exact hm.2.2.2.1
      · exact hm.2.2.2.2.1
      · exact hm.2.2.2.2.2
    · exact (qe j h1).1
    · exact (qe j h1).2
  · rintro ⟨g, ga⟩
    refine ⟨g 23 3 ?_, g 27 8 ?_, g 22 4 ?_, g 22 5 ?_, g 22 6 ?_, g 22 7 ?_, g 22 8 ?_, g 22 9 ?_, g 22 10 ?_, g 22 11 ?_, ga, fun t ht => ⟨g 25 t ?_, g 26 t ?_⟩, fun m hm => ⟨g 29 m ?_, g 30 m ?_, g 31 m ?_, g 32 m ?_, g 33 m ?_, g 34 m ?_⟩, fun e he => ⟨g 35 e ?_, g 36 e ?_⟩⟩
    all_goals (unfold hin; omega)
theorem awS_cg {h h' : Nat → Int} (h1 : h' 1 = h 1) (h2 : ∀ m : Nat, m < 7 → h' (27 + 7 * m) = h (27 + 7 * m)) : awS h' = awS h := by
  apply Nat.eq_of_testBit_eq
  intro k
  rw [awS_bit, awS_bit, h1]
  refine decide_eq_decide.mpr ⟨fun z => ⟨z.1, z.2.1, by rw [← h2 k z.1]; exact z.2.2⟩, fun z => ⟨z.1, z.2.1, by rw [h2 k z.1]; exact z.2.2⟩⟩
theorem HRep.upd {σ : AM} {n t j : Nat} {h : Nat → Int} {z : Int} (hr : HRep σ n h) (hw : WF h) (hi : hin h t j) (hc : hix t j ≠ 0 ∧ hix t j ≠ 1 ∧ hix t j ≠ 2) : HRep (wI σ t n j (Int32.ofInt z)) n (up h (hix t j) z) := by
  have b := hw.1
  rw [HRep_hix] at hr ⊢
  have e0 : up h (hix t j) z 0 = h 0 := up_ne (by omega)
  have e1 : up h (hix t j) z 1 = h 1 := up_ne (by omega)
  have e2 : up h (hix t j) z 2 = h 2 := up_ne (by omega)
  have hin' : ∀ a c, hin (up h (hix t j) z) a c → hin h a c := fun a c q => by unfold hin at q ⊢; rw [e0, e1, e2] at q; exact q
  refine ⟨fun a c q => ?_, ?_⟩
  · have q := hin' a c q
    rw [wI1]
    by_cases e : a = t ∧ n = n ∧ c = j
    · rw [if_pos e, e.1, e.2.2, up_eq]
    · rw [if_neg e, up_ne, hr.1 a c q]
      intro ee
      have := hix_ne hw hi q ee
      exact e ⟨this.1, rfl, this.2⟩
  · rw [wI1, if_neg (by unfold hin at hi; omega), hr.2]
    congr 2
    exact (awS_cg e1 (fun m hm => up_ne (hix_27 hm hi hw))).symm
theorem M0.upd {σ : AM} {h : Nat → Int} {j : Nat} {z : Int} (hr : M0 σ h) : M0 (wI σ 47 0 j (Int32.ofInt z)) (up h j z) := hr.w (fun _ e => up_ne e) up_eq
theorem SymE.cg {h h' : Nat → Int} (hs : SymE h) (e1 : h' 1 = h 1) (e : ∀ m : Nat, (m : Int) < h 1 → h' (30 + 7 * m) = h (30 + 7 * m)) : SymE h' := by
  intro a b ha hb
  rw [e1] at ha hb
  rw [e a ha, e b hb]
  exact hs a b ha hb
