/-! the reference as far as it has read a house -/
def mnS (t i j : Nat) : Prop := (t = 46 ∧ i = 0 ∧ ((12 ≤ j ∧ j ≤ 15) ∨ j = 17 ∨ j = 18 ∨ j = 20)) ∨ (t = 47 ∧ i = 0 ∧ 1860 ≤ j ∧ j < 2325)
def mnL (t i j : Nat) : Prop := t = 48 ∧ i = 0 ∧ 52 ≤ j ∧ j < 65
def mhS (t i j : Nat) : Prop := tmS t i j ∨ (t = 47 ∧ i = 0 ∧ ((1860 ≤ j ∧ j < 1957) ∨ (2317 ≤ j ∧ j < 2325)))
def noS (_ _ _ : Nat) : Prop := False
def MR (σ : AM) (B : Nat → Int) (L : Nat) (S : PS) : Prop := AMo σ B L S.1 ∧ MRep σ 1860 S.2.1 ∧ (∀ t : Nat, (t : Int) < S.2.1 0 → σ.2.1 48 0 (52 + t) = Int64.ofInt ((enc8 (S.2.2.1 t) : Nat) : Int)) ∧ (∀ m : Nat, (m : Int) < S.2.1 1 → σ.2.1 48 0 (58 + m) = Int64.ofInt ((enc8 (S.2.2.2.1 m) : Nat) : Int)) ∧ (∃ e : Nat, e < 128 ∧ σ.1 46 0 20 = Int32.ofInt (e : Int) ∧ e.testBit 0 = S.2.2.2.2.1 ∧ e.testBit 1 = S.2.2.2.2.2) ∧ (∀ j : Nat, 97 ≤ j → j < 457 → σ.1 47 0 (1860 + j) = Int32.ofInt 0) ∧ σ.1 46 0 17 = Int32.ofInt (-1)
def OM (σ : AM) (B : Nat → Int) (L : Nat) (R : Rz) (b : Bool) : Prop := match R with
  | .inl S => b = true ∧ MR σ B L S
  | .inr (c, p) => b = false ∧ σ.1 46 0 18 = Int32.ofInt c ∧ σ.1 46 0 17 = Int32.ofInt (p : Int) ∧ 1 ≤ c ∧ c ≤ 9
theorem tm_mn {σ σ' : AM} (h : Ch tmS σ σ') : ChA mnS mnL σ σ' := h.cha.mo (fun t i j z => Or.inl (by unfold tmS at z; omega)) (fun _ _ _ z => z)
theorem mh_mn {σ σ' : AM} (h : Ch mhS σ σ') : ChA mnS mnL σ σ' := h.cha.mo (fun t i j z => by unfold mhS tmS at z; unfold mnS; omega) (fun _ _ _ z => z)
theorem tm_mh {σ σ' : AM} (h : Ch tmS σ σ') : Ch mhS σ σ' := h.mo (fun t i j z => Or.inl z)
theorem fM_mn {σ : AM} {B : Nat → Int} {L f : Nat} {c : Int} : ChA mnS mnL σ (fM σ B L f c) := (ChA.wI (Or.inl ⟨rfl, rfl, by omega⟩)).tr (ChA.wI (Or.inl ⟨rfl, rfl, by omega⟩))
theorem OM.fl {σ : AM} {B : Nat → Int} {L f : Nat} {c : Int} (h1 : 1 ≤ c) (h9 : c ≤ 9) : OM (fM σ B L f c) B L (rFl B L f c) false := by
  refine ⟨rfl, ?_, ?_, ?_, ?_⟩
  · show (wI (wI σ 46 0 18 _) 46 0 17 _).1 46 0 18 = _
    rw [wI1, if_neg (by omega), wI_16]
  · show (wI (wI σ 46 0 18 _) 46 0 17 _).1 46 0 17 = _
    rw [wI_16]
  · unfold flK; split <;> omega
  · unfold flK; split <;> omega
theorem MR.gen {σ σ' : AM} {B : Nat → Int} {L f : Nat} {S : PS} {h' : Nat → Int} (hm : MR σ B L S) (hc : Ch mhS σ σ') (ha : AMo σ' B L f) (hr : MRep σ' 1860 h') (e0 : h' 0 = S.2.1 0) (e1 : h' 1 = S.2.1 1) : MR σ' B L (f, h', S.2.2) := by
  obtain ⟨h1, h2, h3, h4, ⟨e, h5, h6, h7, h8⟩, h9, h10⟩ := hm
  refine ⟨ha, hr, fun t ht => ?_, fun t ht => ?_, ⟨e, h5, ?_, h7, h8⟩, fun j j1 j2 => ?_, ?_⟩
  · rw [hc.2]; exact h3 t (e0 ▸ ht)
  · rw [hc.2]; exact h4 t (e1 ▸ ht)
  · rw [hc.1 _ _ _ (by unfold mhS tmS; omega)]; exact h6
  · rw [hc.1 _ _ _ (by unfold mhS tmS; omega)]; exact h9 j j1 j2
  · rw [hc.1 _ _ _ (by unfold mhS tmS; omega)]; exact h10
theorem MR.tk {σ σ' : AM} {B : Nat → Int} {L f : Nat} {S : PS} (hm : MR σ B L S) (hc : Ch tmS σ σ') (ha : AMo σ' B L f) : MR σ' B L (f, S.2) := hm.gen (tm_mh hc) ha (fun j hj => by rw [hc.1 _ _ _ (by unfold tmS; omega)]; exact hm.2.1 j hj) rfl rfl
theorem MRep.up {σ σ' : AM} {b k : Nat} {h : Nat → Int} {v : Int} (hr : MRep σ b h) (e : ∀ j, j < 97 → j ≠ k → σ'.1 47 0 (b + j) = σ.1 47 0 (b + j)) (ek : σ'.1 47 0 (b + k) = Int32.ofInt v) : MRep σ' b (up h k v) := by
  intro j hj
  by_cases c : j = k
  · rw [c, ek, up_eq]
  · rw [up_ne c, e j hj c]; exact hr j hj
/-- one cell of the house -/
theorem MR.cell {σ : AM} {B : Nat → Int} {L k : Nat} {S : PS} {v : Int} (hm : MR σ B L S) (hk : 2 ≤ k) (hk2 : k < 97) : MR (wI σ 47 0 (1860 + k) (Int32.ofInt v)) B L (S.1, up S.2.1 k v, S.2.2) := by
  refine hm.gen (Ch.wI (Or.inr ⟨rfl, rfl, by omega⟩)) (hm.1.ch (S := fun t _ _ => t = 47) (fun t q j z => by rw [wI1, if_neg (fun y => z y.1)]) (fun j _ _ z => by omega) (fun j z => by omega)) (hm.2.1.up (fun j _ c => by rw [wI1, if_neg (by omega)]) wI_16) (up_ne (by omega)) (up_ne (by omega))
theorem MR.spare {σ : AM} {B : Nat → Int} {L k : Nat} {S : PS} {v : Int32} (hm : MR σ B L S) (hk : 2317 ≤ k) (hk2 : k < 2325) : MR (wI σ 47 0 k v) B L S := hm.gen (Ch.wI (Or.inr ⟨rfl, rfl, by omega⟩)) (hm.1.ch (S := fun t _ _ => t = 47) (fun t q j z => by rw [wI1, if_neg (fun y => z y.1)]) (fun j _ _ z => by omega) (fun j z => by omega)) (fun j hj => by rw [wI1, if_neg (by omega)]; exact hm.2.1 j hj) rfl rfl
theorem m_semi {CALL : CT} (hC : RuleAll CALL) {r : Nat} {σ : AM} {K : AV → AM → Prop} {B : Nat → Int} {L : Nat} {S : PS} (hm : MR σ B L S) (h : ∀ (b : Bool) (σ' : AM), OM σ' B L (rSemi B L S) b → ChA mnS mnL σ σ' → K (.inl (bI b)) σ') : CALL (r + 3) n_m_wantSign [.inr (.inr (46, 0)), .inl (Int32.ofInt 59)] σ K := by
  refine s_m_wantSign hC hm.1 (fun z σ' k1 k2 => ?_) (fun z => ?_)
  · refine h true σ' ?_ (tm_mn k2)
    unfold rSemi
    rw [if_pos z]
    exact ⟨rfl, hm.tk k2 k1⟩
  · refine h false _ ?_ fM_mn
    unfold rSemi
    rw [if_neg z]
    exact OM.fl (by omega) (by omega)
theorem m_num {CALL : CT} (hC : RuleAll CALL) {r : Nat} {σ : AM} {K : AV → AM → Prop} {B : Nat → Int} {L to : Nat} {S : PS} {x lo hi : Int} {k : Int → Nat → Rz} (hm : MR σ B L S) (hto : x = ((1860 + to : Nat) : Int)) (to1 : 2 ≤ to) (to2 : to < 97) (l1 : 0 ≤ lo) (l2 : lo ≤ 10000) (u1 : 0 ≤ hi) (u2 : hi ≤ 10000) (h1 : ∀ (v : Int) (σ' : AM), v = vlT B L S.1 → lo ≤ v → v ≤ hi → MR σ' B L (nxT B L S.1, up S.2.1 to v, S.2.2) → Ch mhS σ σ' → rNum B L lo hi S.1 k = k v (nxT B L S.1) → K (.inl (Int32.ofInt 1)) σ') (h2 : ∀ σ' : AM, OM σ' B L (rNum B L lo hi S.1 k) false → ChA mnS mnL σ σ' → K (.inl (Int32.ofInt 0)) σ') : CALL (r + 3) n_m_number [.inr (.inr (46, 0)), .inl (Int32.ofInt x), .inl (Int32.ofInt lo), .inl (Int32.ofInt hi)] σ K := by
  refine s_m_number hC hm.1 hto (by omega) l1 l2 u1 u2 (fun z σ' k1 k2 k3 => ?_) (fun z => ?_) (fun z z2 => ?_)
  · have f1 : Ch mhS σ σ' := k2.mo (fun t i j z => by rcases z with z | z; exact Or.inl z; exact Or.inr ⟨z.1, z.2.1, by omega⟩)
    refine h1 _ σ' rfl z.2.1 z.2.2 (hm.gen f1 k1 (hm.2.1.up (fun j _ c => k2.1 _ _ _ (by unfold tmS; omega)) k3) (up_ne (by omega)) (up_ne (by omega))) f1 ?_
    unfold rNum
    rw [if_neg (fun y => y z.1), if_neg (fun y => y z.2)]
  · refine h2 _ ?_ fM_mn
    unfold rNum
    rw [if_pos z]
    exact OM.fl (by omega) (by omega)
  · refine h2 _ ?_ fM_mn
    unfold rNum
    rw [if_neg (fun y => y z), if_pos z2]
    exact OM.fl (by omega) (by omega)
theorem m_word {CALL : CT} (hC : RuleAll CALL) {r : Nat} {σ : AM} {K : AV → AM → Prop} {B : Nat → Int} {L n : Nat} {S : PS} {x : Int} {k : Nat → Rz} (hm : MR σ B L S) (hn : n < 23) (hx : x = (n : Int)) (h1 : ∀ σ' : AM, MR σ' B L (nxT B L S.1, S.2) → Ch tmS σ σ' → rWord B L n S.1 k = k (nxT B L S.1) → K (.inl (Int32.ofInt 1)) σ') (h2 : ∀ σ' : AM, OM σ' B L (rWord B L n S.1 k) false → ChA mnS mnL σ σ' → K (.inl (Int32.ofInt 0)) σ') : CALL (r + 3) n_m_wantWord [.inr (.inr (46, 0)), .inr (.inr (67, 1)), .inl (Int32.ofInt x)] σ K := by
  refine s_m_wantWord hC hm.1 hn hx (fun z σ' k1 k2 => ?_) (fun z => ?_)
  · exact h1 σ' (hm.tk k2 k1) k2 (if_pos z)
  · refine h2 _ ?_ fM_mn
    unfold rWord
    rw [if_neg z]
    exact OM.fl (by omega) (by omega)
