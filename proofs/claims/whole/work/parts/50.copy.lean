/-! a house that is copied -/
def topC (σ : AM) (n a : Nat) : AM := wI (cpI (cpI (cpL σ 24 n 24 a 0 0 6) 25 n 25 a 0 0 6) 26 n 26 a 0 0 6) 23 a 3 (σ.1 23 n 3)
def monC (σ : AM) (n a : Nat) : AM := 
  let σ1 := cpI (cpI (cpI (cpI (cpI (cpI (cpL σ 28 n 28 a 0 0 7) 29 n 29 a 0 0 7) 30 n 30 a 0 0 7) 31 n 31 a 0 0 7) 32 n 32 a 0 0 7) 33 n 33 a 0 0 7) 34 n 34 a 0 0 7
  wI (wI σ1 27 a 7 (σ.1 27 n 7)) 27 a 8 (σ.1 27 n 8)
def cpF (σ : AM) (n a j : Nat) : AM := wI σ 22 a j (σ.1 22 n j)
def houC (σ : AM) (n a : Nat) : AM := cpF (cpF (cpF (cpF (cpF (cpF (cpF (cpF (cpI (cpI (monC (topC σ n a) n a) 35 n 35 a 0 0 12) 36 n 36 a 0 0 12) n a 4) n a 5) n a 6) n a 7) n a 8) n a 9) n a 10) n a 11
theorem s_topicsCopy {CALL : CT} (hC : RuleAll CALL) {r : Nat} {σ : AM} {K : AV → AM → Prop} {n a : Nat} (hne : n ≠ a) (h : K unset (topC σ n a)) : CALL (r + 1) n_Topics_copy [.inr (.inr (23, a)), .inr (.inr (23, n))] σ K := by
  refine r_Topics_copy hC (fun J hJ => ?_)
  refine hJ _ _ _ _ ?_
  conv => whnf
  refine ⟨by decide, ?_⟩
  conv => whnf
  refine ⟨by decide, ?_⟩
  conv => whnf
  refine ⟨by decide, ?_⟩
  conv => whnf
  exact h
theorem s_monksCopy {CALL : CT} (hC : RuleAll CALL) {r : Nat} {σ : AM} {K : AV → AM → Prop} {n a : Nat} (hne : n ≠ a) (h : K unset (monC σ n a)) : CALL (r + 1) n_Monks_copy [.inr (.inr (27, a)), .inr (.inr (27, n))] σ K := by
  refine r_Monks_copy hC (fun J hJ => ?_)
  refine hJ _ _ _ _ ?_
  conv => whnf
  refine ⟨by decide, ?_⟩
  conv => whnf
  refine ⟨by decide, ?_⟩
  conv => whnf
  refine ⟨by decide, ?_⟩
  conv => whnf
  refine ⟨by decide, ?_⟩
  conv => whnf
  refine ⟨by decide, ?_⟩
  conv => whnf
  refine ⟨by decide, ?_⟩
  conv => whnf
  refine ⟨by decide, ?_⟩
  conv => whnf
  have e : ∀ σ1 : AM, (wI σ1 27 a 7 (σ1.1 27 n 7)).1 27 n 8 = σ1.1 27 n 8 := fun σ1 => by rw [wI1, if_neg (by omega)]
  rw [e]
  exact h
theorem s_houseCopy {CALL : CT} (hC : RuleAll CALL) {r : Nat} {σ : AM} {K : AV → AM → Prop} {n a : Nat} (hne : n ≠ a) (h : K unset (houC σ n a)) : CALL (r + 2) n_House_copy [.inr (.inr (22, a)), .inr (.inr (22, n))] σ K := by
  refine r_House_copy hC (fun J hJ => ?_)
  refine hJ _ _ _ _ ?_
  conv => whnf
  refine s_topicsCopy hC hne ?_
  conv => whnf
  refine s_monksCopy hC hne ?_
  conv => whnf
  refine ⟨by decide, ?_⟩
  conv => whnf
  refine ⟨by decide, ?_⟩
  unfold houC at h
  simp only [show (Int32.ofInt 0).toNatClampNeg = 0 from rfl, show (Int32.ofInt 12).toNatClampNeg = 12 from rfl]
  generalize cpI (cpI (monC (topC σ n a) n a) 35 n 35 a 0 0 12) 36 n 36 a 0 0 12 = σ1 at h ⊢
  conv => whnf
  exact h
theorem cpI1 (σ : AM) (t0 i0 t1 i1 sp dp n t i j : Nat) : (cpI σ t0 i0 t1 i1 sp dp n).1 t i j = if t = t1 ∧ i = i1 ∧ dp ≤ j ∧ j < dp + n then σ.1 t0 i0 (sp + (j - dp)) else σ.1 t i j := rfl
theorem cpI2 (σ : AM) (t0 i0 t1 i1 sp dp n : Nat) : (cpI σ t0 i0 t1 i1 sp dp n).2 = σ.2 := rfl
theorem cpL1 (σ : AM) (t0 i0 t1 i1 sp dp n : Nat) : (cpL σ t0 i0 t1 i1 sp dp n).1 = σ.1 := rfl
theorem cpL2 (σ : AM) (t0 i0 t1 i1 sp dp n t i j : Nat) : (cpL σ t0 i0 t1 i1 sp dp n).2.1 t i j = if t = t1 ∧ i = i1 ∧ dp ≤ j ∧ j < dp + n then σ.2.1 t0 i0 (sp + (j - dp)) else σ.2.1 t i j := rfl
/-- what a house is kept in -/
def inHI (t j : Nat) : Prop := (t = 22 ∧ 4 ≤ j ∧ j < 12) ∨ (t = 23 ∧ j = 3) ∨ ((t = 25 ∨ t = 26) ∧ j < 6) ∨ (t = 27 ∧ (j = 7 ∨ j = 8)) ∨ (29 ≤ t ∧ t ≤ 34 ∧ j < 7) ∨ ((t = 35 ∨ t = 36) ∧ j < 12)
def inHL (t j : Nat) : Prop := (t = 24 ∧ j < 6) ∨ (t = 28 ∧ j < 7)
theorem houC_I {σ : AM} {n a : Nat} (hne : n ≠ a) {t j : Nat} (hin : inHI t j) : (houC σ n a).1 t a j = σ.1 t n j := by
  have hne2 : ¬ n = a := hne
  unfold inHI at hin
  have ht : t = 22 ∨ t = 23 ∨ t = 25 ∨ t = 26 ∨ t = 27 ∨ t = 29 ∨ t = 30 ∨ t = 31 ∨ t = 32 ∨ t = 33 ∨ t = 34 ∨ t = 35 ∨ t = 36 := by omega
  rcases ht with rfl | rfl | rfl | rfl | rfl | rfl | rfl | rfl | rfl | rfl | rfl | rfl | rfl
  · have hj : j = 4 ∨ j = 5 ∨ j = 6 ∨ j = 7 ∨ j = 8 ∨ j = 9 ∨ j = 10 ∨ j = 11 := by omega
    rcases hj with rfl | rfl | rfl | rfl | rfl | rfl | rfl | rfl <;> simp [houC, cpF, monC, topC, wI1, cpI1, cpL1, hne2]
  · have hj : j = 3 := by omega
    subst hj
    simp [houC, cpF, monC, topC, wI1, cpI1, cpL1, hne2]
  · have hj : j < 6 := by omega
    simp [houC, cpF, monC, topC, wI1, cpI1, cpL1, hne2, hj]
  · have hj : j < 6 := by omega
    simp [houC, cpF, monC, topC, wI1, cpI1, cpL1, hne2, hj]
  · have hj : j = 7 ∨ j = 8 := by omega
    rcases hj with rfl | rfl <;> simp [houC, cpF, monC, topC, wI1, cpI1, cpL1, hne2]
  all_goals first
    | (have hj : j < 7 := by omega
       simp [houC, cpF, monC, topC, wI1, cpI1, cpL1, hne2, hj]
       done)
    | (have hj : j < 12 := by omega
       simp [houC, cpF, monC, topC, wI1, cpI1, cpL1, hne2, hj])
theorem houC_L {σ : AM} {n a : Nat} (hne : n ≠ a) {t j : Nat} (hin : inHL t j) : (houC σ n a).2.1 t a j = σ.2.1 t n j := by
  have hne2 : ¬ n = a := hne
  rcases hin with ⟨rfl, hj⟩ | ⟨rfl, hj⟩ <;> simp [houC, cpF, monC, topC, wI2, cpI2, cpL2, hne2, hj]
theorem houC_R {σ : AM} {n a : Nat} : (houC σ n a).2.2 = σ.2.2 := rfl
theorem Fr.cpI {S : Nat → Nat → Prop} {σ : AM} {t0 i0 t1 i1 sp dp n : Nat} (h : S t1 i1) : Fr S σ (cpI σ t0 i0 t1 i1 sp dp n) := by
  intro t' i' hs
  refine ⟨?_, rfl, rfl⟩
  funext j'
  rw [cpI1, if_neg (fun z => hs (by rw [z.1, z.2.1]; exact h))]
theorem Fr.cpL {S : Nat → Nat → Prop} {σ : AM} {t0 i0 t1 i1 sp dp n : Nat} (h : S t1 i1) : Fr S σ (cpL σ t0 i0 t1 i1 sp dp n) := by
  intro t' i' hs
  refine ⟨rfl, ?_, rfl⟩
  funext j'
  rw [cpL2, if_neg (fun z => hs (by rw [z.1, z.2.1]; exact h))]
theorem houC_fr {σ : AM} {n a : Nat} : Fr (HS a) σ (houC σ n a) := by
  have hs : ∀ t, 22 ≤ t → t ≤ 36 → HS a t a := fun t h1 h2 => ⟨h1, h2, rfl⟩
  unfold houC cpF monC topC
  refine Fr.tr (Fr.tr (Fr.tr (Fr.tr (Fr.tr (Fr.tr (Fr.tr (Fr.tr (Fr.tr (Fr.tr ?_ (Fr.cpI (hs _ (by omega) (by omega)))) (Fr.cpI (hs _ (by omega) (by omega)))) (Fr.wI (hs _ (by omega) (by omega)))) (Fr.wI (hs _ (by omega) (by omega)))) (Fr.wI (hs _ (by omega) (by omega)))) (Fr.wI (hs _ (by omega) (by omega)))) (Fr.wI (hs _ (by omega) (by omega)))) (Fr.wI (hs _ (by omega) (by omega)))) (Fr.wI (hs _ (by omega) (by omega)))) (Fr.wI (hs _ (by omega) (by omega)))
  refine Fr.tr ?_ (Fr.tr (Fr.tr (Fr.tr (Fr.tr (Fr.tr (Fr.tr (Fr.tr (Fr.tr (Fr.cpL (hs _ (by omega) (by omega))) (Fr.cpI (hs _ (by omega) (by omega)))) (Fr.cpI (hs _ (by omega) (by omega)))) (Fr.cpI (hs _ (by omega) (by omega)))) (Fr.cpI (hs _ (by omega) (by omega)))) (Fr.cpI (hs _ (by omega) (by omega)))) (Fr.cpI (hs _ (by omega) (by omega)))) (Fr.wI (hs _ (by omega) (by omega)))) (Fr.wI (hs _ (by omega) (by omega))))
  exact Fr.tr (Fr.tr (Fr.tr (Fr.cpL (hs _ (by omega) (by omega))) (Fr.cpI (hs _ (by omega) (by omega)))) (Fr.cpI (hs _ (by omega) (by omega)))) (Fr.wI (hs _ (by omega) (by omega)))
theorem HRep.cp {σ σ' : AM} {n a : Nat} {h : Nat → Int} (hr : HRep σ n h) (hw : WF h) (hc : ∀ t j, inHI t j → σ'.1 t a j = σ.1 t n j) : HRep σ' a h := by
  have b := hw.1
  obtain ⟨h0, h1, h2, h3, h4, h5, h6, h7, h8, h9, ha, ht, hm, he⟩ := hr
  have e : ∀ t j, inHI t j → ∀ x, σ.1 t n j = x → σ'.1 t a j = x := fun t j q x hx => (hc t j q).trans hx
  refine ⟨e _ _ ?_ _ h0, e _ _ ?_ _ h1, e _ _ ?_ _ h2, e _ _ ?_ _ h3, e _ _ ?_ _ h4, e _ _ ?_ _ h5, e _ _ ?_ _ h6, e _ _ ?_ _ h7, e _ _ ?_ _ h8, e _ _ ?_ _ h9, e _ _ ?_ _ ha, fun t q => ⟨e _ _ ?_ _ (ht t q).1, e _ _ ?_ _ (ht t q).2⟩, fun m q => ⟨e _ _ ?_ _ (hm m q).1, e _ _ ?_ _ (hm m q).2.1, e _ _ ?_ _ (hm m q).2.2.1, e _ _ ?_ _ (hm m q).2.2.2.1, e _ _ ?_ _ (hm m q).2.2.2.2.1, e _ _ ?_ _ (hm m q).2.2.2.2.2⟩, fun k q => ⟨e _ _ ?_ _ (he k q).1, e _ _ ?_ _ (he k q).2⟩⟩
  all_goals (unfold inHI; omega)
/-- the house in so many minutes, in the first of those that are tried -/
theorem HRep.hou {σ : AM} {n a : Nat} {h : Nat → Int} (hr : HRep σ n h) (hw : WF h) (hne : n ≠ a) : HRep (houC σ n a) a h := hr.cp hw (fun _ _ q => houC_I hne q)
theorem SC.hs {σ σ' : AM} {a : Nat} (ha : a < 4) (hf : Fr (HS a) σ σ') : SC σ σ' := by
  refine SC.fr hf ?_ ?_ ?_
  · rintro t i j ⟨h1, h2, rfl⟩
    unfold keepI
    omega
  · rintro t i j ⟨h1, h2, rfl⟩
    unfold keepL
    omega
  · rintro ⟨h1, h2, h3⟩
    omega
theorem s_aheadIn {CALL : CT} (hC : RuleAll CALL) {r : Nat} {σ : AM} {K : AV → AM → Prop} {n k : Nat} {h0 : Nat → Int} (hr : HRep σ n h0) (hw : WP h0) (hn : 4 ≤ n) (h5 : h0 5 + k ≤ 20000) (h : ∀ σ' : AM, HRep σ' 0 (minN k h0) → Fr (HS 0) σ σ' → σ'.2.2 = σ.2.2 → K (.inr (.inr (22, 0))) σ') : CALL (r + 6) n_Ahead_in [.inr (.inr (11, 0)), .inr (.inr (22, n)), .inl (Int32.ofInt k)] σ K := by
  refine r_Ahead_in hC (fun J hJ => ?_)
  refine hJ _ _ _ _ ?_
  conv => whnf
  have hne : n ≠ 0 := by omega
  refine ⟨(oi_in (by omega) (by omega)).mpr ⟨by omega, by omega⟩, ?_⟩
  conv => whnf
  refine s_houseCopy hC hne ?_
  conv => whnf
  refine ⟨(oi_in (by omega) (by omega)).mpr ⟨by omega, by omega⟩, ?_⟩
  conv => whnf
  refine s_pass hC (hr.hou hw.1 hne) hw h5 ?_
  intro σ' h1 h2 h3
  conv => whnf
  refine ⟨(oi_in (by omega) (by omega)).mpr ⟨by omega, by omega⟩, ?_⟩
  conv => whnf
  exact h σ' h1 (houC_fr.tr h2) (by rw [h3]; rfl)
