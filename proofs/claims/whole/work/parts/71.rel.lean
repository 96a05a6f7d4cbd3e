/-! all that class and reference know, and how it is alike -/
def enc5 (w : List Nat) : Nat := w.foldl (fun a c => a * 32 + (c - 96)) 0
def enc8 (w : List Nat) : Nat := w.foldl (fun a c => a * 256 + c) 0
def WordOk (w : List Nat) : Prop := w ≠ [] ∧ w.length ≤ 8 ∧ ∀ c ∈ w, 97 ≤ c ∧ c ≤ 122
/-- a name: five bits a letter, and eight -/
def NmR (a b : Int64) : Prop := ∃ w, WordOk w ∧ a = Int64.ofInt (enc5 w) ∧ b = Int64.ofInt (enc8 w)
def NamR (σ : AM) (n c : Nat) (h : Nat → Int) : Prop := (∀ t : Nat, (t : Int) < h 0 → NmR (σ.2.1 24 n t) (σ.2.1 48 0 (c + t))) ∧ (∀ m : Nat, (m : Int) < h 1 → NmR (σ.2.1 28 n m) (σ.2.1 48 0 (c + 6 + m)))
/-- the class's number of a step, of a test -/
def kdC (x : Int) : Int := if x < 16 then x else if x = 17 then 20 else if x = 18 then 21 else if x = 19 then 22 else 16
def teC (x : Int) : Int := if x = 1608 then 5 else if x = 1620 then 17 else if x = 1621 then 18 else 19
def isOp (x : Int) : Prop := x = 17 ∨ 1600 ≤ x
def sgOk (x : Int) : Prop := x = 60 ∨ x = 61 ∨ x = 62
def StepOk (a b : Int) (f : Nat → Int) : Prop :=
  (f 0 = 11 ∧ 1 ≤ f 1 ∧ f 1 ≤ 60) ∨ ((f 0 = 12 ∨ f 0 = 13 ∨ f 0 = 14) ∧ 0 ≤ f 1 ∧ f 1 < b) ∨ f 0 = 15 ∨ (f 0 = 17 ∧ 1 ≤ f 1 ∧ f 1 ≤ 99) ∨ f 0 = 18 ∨ f 0 = 19 ∨
  (f 0 = 1620 ∧ 0 ≤ f 1 ∧ f 1 < b) ∨ (f 0 = 1621 ∧ 0 ≤ f 1 ∧ f 1 < a) ∨ (f 0 = 1608 ∧ 0 ≤ f 1 ∧ f 1 < b ∧ 0 ≤ f 2 ∧ f 2 ≤ 99 ∧ sgOk (f 5)) ∨ (f 0 = 1622 ∧ 0 ≤ f 2 ∧ f 2 ≤ 9999 ∧ sgOk (f 5))
def StepC (σ : AM) (p k : Nat) (f : Nat → Int) : Prop := σ.1 38 p k = Int32.ofInt (kdC (f 0)) ∧ ((12 ≤ f 0 ∧ f 0 ≤ 14) ∨ (1600 ≤ f 0 ∧ f 0 ≤ 1621) → σ.1 39 p k = Int32.ofInt (f 1)) ∧ (f 0 = 11 ∨ f 0 = 17 → σ.1 40 p k = Int32.ofInt (f 1)) ∧ (f 0 = 1608 ∨ f 0 = 1622 → σ.1 40 p k = Int32.ofInt (f 2) ∧ σ.1 42 p k = Int32.ofInt (f 5)) ∧ (1600 ≤ f 0 → σ.1 41 p k = Int32.ofInt (teC (f 0))) ∧ (isOp (f 0) ∨ f 0 = 18 → σ.1 43 p k = Int32.ofInt (f 4))
/-- steps with their ends: how deep each stands -/
def WD (a b : Int) (d : Nat → Nat → Int) (s : Nat) (dep : Nat → Nat) : Prop :=
  s ≤ 60 ∧ dep 0 = 0 ∧ dep s = 0 ∧ (∀ k, k ≤ s → dep k ≤ 3) ∧
  (∀ k, k < s → StepOk a b (d k) ∧
    (isOp (d k 0) → dep (k + 1) = dep k + 1 ∧ ∃ e : Nat, d k 4 = (e : Int) ∧ k < e ∧ e < s ∧ d e 0 = 18 ∧ d e 4 = (k : Int) ∧ dep (e + 1) = dep k ∧ ∀ q, k < q → q ≤ e → dep k < dep q) ∧
    (d k 0 = 18 → dep k = dep (k + 1) + 1 ∧ ∃ o : Nat, d k 4 = (o : Int) ∧ o < k ∧ isOp (d o 0) ∧ d o 4 = (k : Int)) ∧
    (¬ isOp (d k 0) → d k 0 ≠ 18 → dep (k + 1) = dep k))
def DayR (σ : AM) (p b : Nat) (h : Nat → Int) : Prop :=
  (h 10 = -1 ∧ σ.1 37 p 8 = Int32.ofInt 0 ∧ σ.1 37 p 6 = Int32.ofInt 0) ∨
  (∃ (s : Nat) (d : Nat → Nat → Int) (dep : Nat → Nat), h 10 = (s : Int) ∧ σ.1 37 p 8 = Int32.ofInt 1 ∧ σ.1 37 p 6 = Int32.ofInt (s : Int) ∧ WD (h 0) (h 1) d s dep ∧ ∀ k, k < s → StepC σ p k (d k) ∧ ∀ j, j < 6 → σ.1 47 0 (b + (97 + 6 * k + j)) = Int32.ofInt (d k j))
/-- who hears hears back -/
def SymE (h : Nat → Int) : Prop := ∀ a b : Nat, (a : Int) < h 1 → (b : Int) < h 1 → (h (30 + 7 * a)).toNat.testBit b = (h (30 + 7 * b)).toNat.testBit a
def HouR (σ : AM) (n b c p : Nat) (h : Nat → Int) : Prop := HRep σ n h ∧ MRep σ b h ∧ WP h ∧ h 5 ≤ 9999 ∧ SymE h ∧ NamR σ n c h ∧ DayR σ p b h
theorem StepC.cg {σ σ' : AM} {p p' k : Nat} {f : Nat → Int} (hs : StepC σ p k f) (e : ∀ t, 38 ≤ t → t ≤ 43 → σ'.1 t p' k = σ.1 t p k) : StepC σ' p' k f := by
  unfold StepC at hs ⊢
  rw [e 38 (by omega) (by omega), e 39 (by omega) (by omega), e 40 (by omega) (by omega), e 41 (by omega) (by omega), e 42 (by omega) (by omega), e 43 (by omega) (by omega)]
  exact hs
theorem DayR.cg {σ σ' : AM} {p p' b b' : Nat} {h h' : Nat → Int} (hd : DayR σ p b h) (e0 : h' 0 = h 0) (e1 : h' 1 = h 1) (e10 : h' 10 = h 10) (e8 : σ'.1 37 p' 8 = σ.1 37 p 8) (e6 : σ'.1 37 p' 6 = σ.1 37 p 6) (e : ∀ k : Nat, (k : Int) < h 10 → ∀ t, 38 ≤ t → t ≤ 43 → σ'.1 t p' k = σ.1 t p k) (ea : ∀ j, 97 ≤ j → j < 457 → σ'.1 47 0 (b' + j) = σ.1 47 0 (b + j)) : DayR σ' p' b' h' := by
  rcases hd with ⟨d1, d2, d3⟩ | ⟨s, d, dep, d1, d2, d3, d4, d5⟩
  · exact Or.inl ⟨by rw [e10, d1], by rw [e8, d2], by rw [e6, d3]⟩
  · refine Or.inr ⟨s, d, dep, by rw [e10, d1], by rw [e8, d2], by rw [e6, d3], by rw [e0, e1]; exact d4, fun k hk => ⟨((d5 k hk).1).cg (e k (by omega)), fun j hj => ?_⟩⟩
    have := d4.1
    rw [ea (97 + 6 * k + j) (by omega) (by omega)]
    exact (d5 k hk).2 j hj
theorem NamR.cg {σ σ' : AM} {n n' c c' : Nat} {h h' : Nat → Int} (hn : NamR σ n c h) (hw : WF h) (e0 : h' 0 = h 0) (e1 : h' 1 = h 1) (et : ∀ j, j < 6 → σ'.2.1 24 n' j = σ.2.1 24 n j) (em : ∀ j, j < 7 → σ'.2.1 28 n' j = σ.2.1 28 n j) (ea : ∀ j, j < 13 → σ'.2.1 48 0 (c' + j) = σ.2.1 48 0 (c + j)) : NamR σ' n' c' h' := by
  have b := hw.1
  refine ⟨fun t ht => ?_, fun m hm => ?_⟩
  · rw [et t (by omega), ea t (by omega)]
    exact hn.1 t (by omega)
  · rw [em m (by omega), show c' + 6 + m = c' + (6 + m) by omega, ea (6 + m) (by omega), show c + (6 + m) = c + 6 + m by omega]
    exact hn.2 m (by omega)
theorem HouR.cg {σ σ' : AM} {n n' b b' c c' p p' : Nat} {h : Nat → Int} (hh : HouR σ n b c p h) (eh : ∀ t j, inHI t j → σ'.1 t n' j = σ.1 t n j) (el : ∀ t j, inHL t j → σ'.2.1 t n' j = σ.2.1 t n j) (ea : ∀ j, j < 457 → σ'.1 47 0 (b' + j) = σ.1 47 0 (b + j)) (en : ∀ j, j < 13 → σ'.2.1 48 0 (c' + j) = σ.2.1 48 0 (c + j)) (e8 : σ'.1 37 p' 8 = σ.1 37 p 8) (e6 : σ'.1 37 p' 6 = σ.1 37 p 6) (e : ∀ k : Nat, (k : Int) < h 10 → ∀ t, 38 ≤ t → t ≤ 43 → σ'.1 t p' k = σ.1 t p k) : HouR σ' n' b' c' p' h := by
  obtain ⟨h1, h2, h3, h4, h5, h6, h7⟩ := hh
  refine ⟨h1.cp h3.1 eh, fun j hj => ?_, h3, h4, h5, h6.cg h3.1 rfl rfl (fun j hj => el 24 j (Or.inl ⟨rfl, hj⟩)) (fun j hj => el 28 j (Or.inr ⟨rfl, hj⟩)) en, h7.cg rfl rfl rfl e8 e6 e (fun j _ hj => ea j hj)⟩
  rw [ea j (by omega)]
  exact h2 j hj
/-- the rest -/
def MarkR (σ : AM) : Prop := ∃ k : Nat, k ≤ 3 ∧ σ.1 1 0 15 = Int32.ofInt (k : Int) ∧ σ.1 46 0 46 = Int32.ofInt (k : Int) ∧ ∀ i, i < k → ∃ h, HouR σ (6 + i) (465 * (i + 1)) (13 * (i + 1)) (2 + i) h
def TrayR (σ : AM) : Prop := ∀ t, t < 4 → (σ.1 44 t 1 = Int32.ofInt 0 ∧ σ.1 50 0 t = Int32.ofInt (-1)) ∨ (∃ s k : Nat, s ≤ 3 ∧ k ≤ 60 ∧ σ.1 44 t 1 = Int32.ofInt 1 ∧ σ.1 44 t 2 = Int32.ofInt (s : Int) ∧ σ.1 49 0 t = Int32.ofInt (s : Int) ∧ σ.1 44 t 3 = Int32.ofInt (k : Int) ∧ σ.1 50 0 t = Int32.ofInt (k : Int) ∧ ∀ j, j < k → σ.2.1 45 t j = σ.2.1 51 0 (60 * t + j))
/-- a byte, as an int of 0 to 255, and with its sign -/
def sg8 (x : Nat) : Int := if x < 128 then (x : Int) else (x : Int) - 256
def TapeR (σ : AM) : Prop := ∃ k : Nat, k ≤ 900 ∧ σ.1 3 0 2 = Int32.ofInt (k : Int) ∧ σ.1 46 0 10 = Int32.ofInt (k : Int) ∧ ∀ j, j < k → ∃ x : Nat, x < 256 ∧ σ.1 4 0 j = Int32.ofInt (x : Int) ∧ σ.1 52 0 j = Int32.ofInt (sg8 x)
def FltR (σ : AM) : Prop := σ.1 3 0 3 = σ.1 46 0 16 ∧ σ.1 3 0 4 = σ.1 46 0 17
def LifeR (σ : AM) : Prop := (σ.1 19 0 10 = Int32.ofInt 0 ∧ σ.1 46 0 45 = Int32.ofInt 0) ∨ (σ.1 19 0 10 = Int32.ofInt 1 ∧ σ.1 46 0 45 = Int32.ofInt 1 ∧ σ.1 19 0 5 = σ.1 66 0 0 ∧ σ.1 19 0 6 = σ.1 66 0 1 ∧ σ.1 19 0 7 = σ.1 66 0 2 ∧ σ.1 19 0 8 = σ.1 66 0 3 ∧ ∃ b : Bool, σ.1 19 0 9 = bI b ∧ σ.1 66 0 4 = bI b)
def FracR (σ : AM) : Prop := σ.2.1 1 0 17 = σ.2.1 46 0 3 ∧ σ.2.1 1 0 18 = σ.2.1 46 0 4
def keyW : List (List Nat) := [[116,117,114,110],[111,100,100,115],[116,111,112,105,99],[99,111,115,116],[109,111,110,107],[98,114,101,97,116,104],[114,101,115,116],[97,115,108,101,101,112],[102,111,108,108,111,119,115],[114,111,115,116,101,114],[104,101,97,114,115],[109,105,110,117,116,101],[99,104,97,110,103,101],[119,97,107,101],[115,108,101,101,112],[97,110,121],[119,104,101,110],[115,105,108,101,110,116],[108,97,115,116],[112,97,117,115,101,100],[108,111,111,112],[101,110,100],[115,116,111,112]]
def KeyR (σ : AM) : Prop := ∀ i, i < 23 → σ.2.1 5 0 i = Int64.ofInt (enc5 (keyW.getD i []) : Nat)
def RelB (σ : AM) : Prop := MarkR σ ∧ TrayR σ ∧ TapeR σ ∧ FltR σ ∧ LifeR σ ∧ FracR σ ∧ KeyR σ
def RelA (σ : AM) (n p : Nat) (h : Nat → Int) : Prop := (n = 4 ∨ n = 5) ∧ p < 2 ∧ σ.2.2 1 0 11 = n ∧ σ.2.2 1 0 12 = 9 - n ∧ σ.2.2 1 0 13 = p ∧ σ.2.2 1 0 14 = 1 - p ∧ HouR σ n 0 0 p h
def Rel (σ : AM) : Prop := (∃ n p h, RelA σ n p h) ∧ RelB σ ∧ σ.1 1 0 16 = σ.1 46 0 2
/-- what the rest stands in -/
def kB (t i j : Nat) : Prop := (t = 1 ∧ j = 15) ∨ (t = 3 ∧ 2 ≤ j ∧ j ≤ 4) ∨ t = 4 ∨ (22 ≤ t ∧ t ≤ 36 ∧ 6 ≤ i) ∨ (37 ≤ t ∧ t ≤ 43 ∧ 2 ≤ i) ∨ t = 44 ∨ (t = 19 ∧ i = 0 ∧ 4 ≤ j) ∨ (t = 46 ∧ (j = 10 ∨ j = 16 ∨ j = 17 ∨ j = 45 ∨ j = 46)) ∨ (t = 47 ∧ 465 ≤ j ∧ j < 1860) ∨ t = 49 ∨ t = 50 ∨ t = 52 ∨ t = 66
def kBL (t i j : Nat) : Prop := t = 1 ∨ t = 5 ∨ (22 ≤ t ∧ t ≤ 36 ∧ 6 ≤ i) ∨ t = 45 ∨ t = 46 ∨ (t = 48 ∧ 13 ≤ j ∧ j < 52) ∨ t = 51
theorem MarkR.cg {σ σ' : AM} (hm : MarkR σ) (e1 : ∀ t i j, kB t i j → σ'.1 t i j = σ.1 t i j) (e2 : ∀ t i j, kBL t i j → t ≠ 1 → t ≠ 46 → σ'.2.1 t i j = σ.2.1 t i j) : MarkR σ' := by
  obtain ⟨k, h1, h2, h3, h4⟩ := hm
  refine ⟨k, h1, by rw [e1 1 0 15 (by unfold kB; omega), h2], by rw [e1 46 0 46 (by unfold kB; omega), h3], fun i hi => ?_⟩
  obtain ⟨h, hh⟩ := h4 i hi
  refine ⟨h, hh.cg (fun t j hin => e1 _ _ _ ?_) (fun t j hin => e2 _ _ _ ?_ ?_ ?_) (fun j hj => e1 _ _ _ ?_) (fun j hj => e2 _ _ _ ?_ ?_ ?_) (e1 _ _ _ ?_) (e1 _ _ _ ?_) (fun k _ t a b => e1 _ _ _ ?_)⟩
  · unfold inHI at hin; unfold kB; omega
  · unfold inHL at hin; unfold kBL; omega
  · unfold inHL at hin; omega
  · unfold inHL at hin; omega
  · unfold kB; omega
  · unfold kBL; omega
  · omega
  · omega
  · unfold kB; omega
  · unfold kB; omega
  · unfold kB; omega
theorem TrayR.cg {σ σ' : AM} (hm : TrayR σ) (e1 : ∀ t i j, kB t i j → σ'.1 t i j = σ.1 t i j) (e2 : ∀ t i j, kBL t i j → t ≠ 1 → t ≠ 46 → σ'.2.1 t i j = σ.2.1 t i j) : TrayR σ' := by
  have a : ∀ i j, σ'.1 44 i j = σ.1 44 i j := fun i j => e1 _ _ _ (by unfold kB; omega)
  have b : ∀ i j, σ'.1 49 i j = σ.1 49 i j := fun i j => e1 _ _ _ (by unfold kB; omega)
  have c : ∀ i j, σ'.1 50 i j = σ.1 50 i j := fun i j => e1 _ _ _ (by unfold kB; omega)
  have d : ∀ i j, σ'.2.1 45 i j = σ.2.1 45 i j := fun i j => e2 _ _ _ (by unfold kBL; omega) (by omega) (by omega)
  have e : ∀ i j, σ'.2.1 51 i j = σ.2.1 51 i j := fun i j => e2 _ _ _ (by unfold kBL; omega) (by omega) (by omega)
  intro t ht
  have := hm t ht
  simp only [a, b, c, d, e]
  exact this
theorem TapeR.cg {σ σ' : AM} (hm : TapeR σ) (e1 : ∀ t i j, kB t i j → σ'.1 t i j = σ.1 t i j) : TapeR σ' := by
  obtain ⟨k, h1, h2, h3, h4⟩ := hm
  refine ⟨k, h1, by rw [e1 3 0 2 (by unfold kB; omega), h2], by rw [e1 46 0 10 (by unfold kB; omega), h3], fun j hj => ?_⟩
  rw [e1 4 0 j (by unfold kB; omega), e1 52 0 j (by unfold kB; omega)]
  exact h4 j hj
theorem FltR.cg {σ σ' : AM} (hm : FltR σ) (e1 : ∀ t i j, kB t i j → σ'.1 t i j = σ.1 t i j) : FltR σ' := by
  unfold FltR
  rw [e1 3 0 3 (by unfold kB; omega), e1 3 0 4 (by unfold kB; omega), e1 46 0 16 (by unfold kB; omega), e1 46 0 17 (by unfold kB; omega)]
  exact hm
theorem LifeR.cg {σ σ' : AM} (hm : LifeR σ) (e1 : ∀ t i j, kB t i j → σ'.1 t i j = σ.1 t i j) : LifeR σ' := by
  have a : ∀ j, 4 ≤ j → σ'.1 19 0 j = σ.1 19 0 j := fun j hj => e1 _ _ _ (by unfold kB; omega)
  have b : ∀ j, σ'.1 66 0 j = σ.1 66 0 j := fun j => e1 _ _ _ (by unfold kB; omega)
  unfold LifeR at hm ⊢
  rw [a 5 (by omega), a 6 (by omega), a 7 (by omega), a 8 (by omega), a 9 (by omega), a 10 (by omega), b, b, b, b, b, e1 46 0 45 (by unfold kB; omega)]
  exact hm
theorem KeyR.cg {σ σ' : AM} (hm : KeyR σ) (e2 : ∀ t i j, kBL t i j → t ≠ 1 → t ≠ 46 → σ'.2.1 t i j = σ.2.1 t i j) : KeyR σ' := fun i hi => by
  rw [e2 5 0 i (by unfold kBL; omega) (by omega) (by omega)]
  exact hm i hi
theorem RelB.cg {σ σ' : AM} (hb : RelB σ) (e1 : ∀ t i j, kB t i j → σ'.1 t i j = σ.1 t i j) (e2 : ∀ t i j, kBL t i j → t ≠ 1 → t ≠ 46 → σ'.2.1 t i j = σ.2.1 t i j) (ef : FracR σ') : RelB σ' :=
  ⟨hb.1.cg e1 e2, hb.2.1.cg e1 e2, hb.2.2.1.cg e1, hb.2.2.2.1.cg e1, hb.2.2.2.2.1.cg e1, ef, hb.2.2.2.2.2.2.cg e2⟩
theorem kB_k {t i j : Nat} (h : kB t i j) : keepI t i j := by unfold kB at h; unfold keepI; omega
theorem kBL_k {t i j : Nat} (h : kBL t i j) : keepL t i j := by unfold kBL at h; unfold keepL; omega
theorem Rel.fre {σ σ' : AM} (hR : Rel σ) (hs : FrE σ σ') (st : σ'.1 1 0 16 = σ'.1 46 0 2) : Rel σ' := by
  obtain ⟨⟨n, p, h, n45, hp, r1, r2, r3, r4, hh⟩, hb, -⟩ := hR
  obtain ⟨s1, s2, s3, s4⟩ := hs
  refine ⟨⟨n, p, h, n45, hp, by rw [s3 11 (by omega) (by omega), r1], by rw [s3 12 (by omega) (by omega), r2], by rw [s3 13 (by omega) (by omega), r3], by rw [s3 14 (by omega) (by omega), r4], ?_⟩, ?_, st⟩
  · refine hh.cg (fun t j hin => s1 _ _ _ ?_) (fun t j hin => s2 _ _ _ ?_ ?_ ?_) (fun j hj => s1 _ _ _ ?_) (fun j hj => s2 _ _ _ ?_ ?_ ?_) (s1 _ _ _ ?_) (s1 _ _ _ ?_) (fun k _ t a b => s1 _ _ _ ?_)
    · unfold inHI at hin; unfold keepI; omega
    · unfold inHL at hin; unfold keepL; omega
    · unfold inHL at hin; omega
    · unfold inHL at hin; omega
    · unfold keepI; omega
    · unfold keepL; omega
    · omega
    · omega
    · unfold keepI; omega
    · unfold keepI; omega
    · unfold keepI; omega
  · refine hb.cg (fun t i j k => s1 t i j (kB_k k)) (fun t i j k a b => s2 t i j (kBL_k k) a b) ?_
    rcases s4 with s4 | s4
    · exact s4
    · have f := hb.2.2.2.2.2.1
      unfold FracR
      rw [s4.2.1 1 0 17 (by unfold keepL; omega), s4.2.1 46 0 3 (by unfold keepL; omega), s4.2.1 1 0 18 (by unfold keepL; omega), s4.2.1 46 0 4 (by unfold keepL; omega)]
      exact f
theorem Rel.sc {σ σ' : AM} (hR : Rel σ) (hs : SC σ σ') (st : σ'.1 1 0 16 = σ'.1 46 0 2) : Rel σ' := hR.fre hs.fre st
theorem MRep.m0 {σ : AM} {h : Nat → Int} (hm : MRep σ 0 h) : M0 σ h := fun j hj => by have := hm j hj; rw [Nat.zero_add] at this; exact this
theorem M0.mr {σ : AM} {h : Nat → Int} (hm : M0 σ h) : MRep σ 0 h := fun j hj => by rw [Nat.zero_add]; exact hm j hj
theorem RelA.nh {σ : AM} {n p : Nat} {h : Nat → Int} (ha : RelA σ n p h) : NH σ n h := ⟨ha.1, ha.2.2.1, ha.2.2.2.2.2.2.1, ha.2.2.2.2.2.2.2.1.m0, ha.2.2.2.2.2.2.2.2.1, ha.2.2.2.2.2.2.2.2.2.1⟩
theorem Rel.nh {σ : AM} (hR : Rel σ) : ∃ n h, NH σ n h := by
  obtain ⟨⟨n, p, h, ha⟩, -⟩ := hR
  exact ⟨n, h, ha.nh⟩
/-- what an edit of the house may change -/
def edS (n t i j : Nat) : Prop := HS n t i ∨ (t = 47 ∧ i = 0 ∧ j < 97) ∨ (t = 1 ∧ i = 0 ∧ j = 16) ∨ (t = 46 ∧ i = 0 ∧ (j = 2 ∨ j = 24 ∨ j = 25 ∨ j = 26))
theorem Rel.edit {σ σ' : AM} {n p : Nat} {h h' : Nat → Int} (ha : RelA σ n p h) (hb : RelB σ) (hr : HRep σ' n h') (hm : M0 σ' h') (hw : WP h') (h5 : h' 5 ≤ 9999) (hs : SymE h') (e0 : h' 0 = h 0) (e1 : h' 1 = h 1) (e10 : h' 10 = h 10) (hc : Ch (edS n) σ σ') (st : σ'.1 1 0 16 = σ'.1 46 0 2) : Rel σ' := by
  obtain ⟨n45, hp, r1, r2, r3, r4, g1, g2, g3, g4, g5, g6, g7⟩ := ha
  refine ⟨⟨n, p, h', n45, hp, by rw [hc.2]; exact r1, by rw [hc.2]; exact r2, by rw [hc.2]; exact r3, by rw [hc.2]; exact r4, hr, hm.mr, hw, h5, hs, ?_, ?_⟩, ?_, st⟩
  · exact g6.cg g3.1 e0 e1 (fun j _ => by rw [hc.2]) (fun j _ => by rw [hc.2]) (fun j _ => by rw [hc.2])
  · refine g7.cg e0 e1 e10 (hc.1 _ _ _ ?_) (hc.1 _ _ _ ?_) (fun k _ t a b => hc.1 _ _ _ ?_) (fun j a b => hc.1 _ _ _ ?_)
    all_goals (unfold edS HS; omega)
  · refine hb.cg (fun t i j k => hc.1 _ _ _ ?_) (fun t i j k _ _ => by rw [hc.2]) ?_
    · unfold kB at k; unfold edS HS; omega
    · have f := hb.2.2.2.2.2.1
      unfold FracR
      rw [hc.2]
      exact f
/-- one number of a house is another -/
def up (h : Nat → Int) (i : Nat) (z : Int) : Nat → Int := fun k => if k = i then z else h k
theorem up_eq {h : Nat → Int} {i : Nat} {z : Int} : up h i z i = z := if_pos rfl
theorem up_ne {h : Nat → Int} {i k : Nat} {z : Int} (e : k ≠ i) : up h i z k = h k := if_neg e
theorem up_or (h : Nat → Int) (i : Nat) (z : Int) (k : Nat) : (k = i ∧ up h i z k = z) ∨ (k ≠ i ∧ up h i z k = h k) := by
  by_cases e : k = i
  · exact Or.inl ⟨e, by rw [e, up_eq]⟩
  · exact Or.inr ⟨e, up_ne e⟩
def upOk (h : Nat → Int) (i : Nat) (z : Int) : Prop := (i = 3 ∧ 1 ≤ z ∧ z ≤ 99) ∨ (i = 4 ∧ 0 ≤ z ∧ z ≤ 16) ∨ (i = 8 ∧ 0 ≤ z ∧ z < h 1) ∨ (∃ t : Nat, (t : Int) < h 0 ∧ i = 12 + 2 * t ∧ 0 ≤ z ∧ z ≤ 20) ∨ (∃ t : Nat, (t : Int) < h 0 ∧ i = 13 + 2 * t ∧ 0 ≤ z ∧ z < 64) ∨ (∃ m : Nat, (m : Int) < h 1 ∧ i = 24 + 7 * m ∧ 0 ≤ z ∧ z ≤ h (25 + 7 * m)) ∨ (∃ m : Nat, (m : Int) < h 1 ∧ i = 27 + 7 * m ∧ 0 ≤ z ∧ z ≤ 1) ∨ (∃ m : Nat, (m : Int) < h 1 ∧ i = 30 + 7 * m ∧ 0 ≤ z ∧ z < 128)
theorem upOk_i {h : Nat → Int} {i : Nat} {z : Int} (hw : WF h) (hu : upOk h i z) : i ≠ 0 ∧ i ≠ 1 ∧ i ≠ 2 ∧ i ≠ 5 ∧ i ≠ 6 ∧ i ≠ 7 ∧ i ≠ 9 ∧ i ≠ 10 ∧ i < 73 := by
  have b := hw.1
  rcases hu with h1 | h1 | h1 | ⟨t, h1⟩ | ⟨t, h1⟩ | ⟨t, h1⟩ | ⟨t, h1⟩ | ⟨t, h1⟩ <;> omega
theorem WP.upd {h : Nat → Int} {i : Nat} {z : Int} (hw : WP h) (hu : upOk h i z) : WP (up h i z) := by
  obtain ⟨⟨b, g2, g3, g4⟩, w6, w7⟩ := hw
  have ui := upOk_i ⟨b, g2, g3, g4⟩ hu
  have e0 : up h i z 0 = h 0 := up_ne (by omega)
  have e1 : up h i z 1 = h 1 := up_ne (by omega)
  have e2 : up h i z 2 = h 2 := up_ne (by omega)
  have e5 : up h i z 5 = h 5 := up_ne (by omega)
  have e6 : up h i z 6 = h 6 := up_ne (by omega)
  have e7 : up h i z 7 = h 7 := up_ne (by omega)
  have e9 : up h i z 9 = h 9 := up_ne (by omega)
  have e3 := up_or h i z 3
  have e4 := up_or h i z 4
  have e8 := up_or h i z 8
  refine ⟨⟨?_, fun t ht => ?_, fun m hm => ?_, fun e he => ?_⟩, by omega, by omega⟩
  · rcases hu with h1 | h1 | h1 | ⟨t, h1⟩ | ⟨t, h1⟩ | ⟨t, h1⟩ | ⟨t, h1⟩ | ⟨t, h1⟩ <;> omega
  · have k1 := up_or h i z (12 + 2 * t)
    have k2 := up_or h i z (13 + 2 * t)
    have k3 := g2 t (by omega)
    rcases hu with h1 | h1 | h1 | ⟨q, h1⟩ | ⟨q, h1⟩ | ⟨q, h1⟩ | ⟨q, h1⟩ | ⟨q, h1⟩ <;> omega
  · have a0 := up_or h i z (24 + 7 * m)
    have a1 : up h i z (25 + 7 * m) = h (25 + 7 * m) := up_ne (by rcases hu with h1 | h1 | h1 | ⟨q, h1⟩ | ⟨q, h1⟩ | ⟨q, h1⟩ | ⟨q, h1⟩ | ⟨q, h1⟩ <;> omega)
    have a2 : up h i z (26 + 7 * m) = h (26 + 7 * m) := up_ne (by rcases hu with h1 | h1 | h1 | ⟨q, h1⟩ | ⟨q, h1⟩ | ⟨q, h1⟩ | ⟨q, h1⟩ | ⟨q, h1⟩ <;> omega)
    have a3 := up_or h i z (27 + 7 * m)
    have a4 : up h i z (28 + 7 * m) = h (28 + 7 * m) := up_ne (by rcases hu with h1 | h1 | h1 | ⟨q, h1⟩ | ⟨q, h1⟩ | ⟨q, h1⟩ | ⟨q, h1⟩ | ⟨q, h1⟩ <;> omega)
    have a5 : up h i z (29 + 7 * m) = h (29 + 7 * m) := up_ne (by rcases hu with h1 | h1 | h1 | ⟨q, h1⟩ | ⟨q, h1⟩ | ⟨q, h1⟩ | ⟨q, h1⟩ | ⟨q, h1⟩ <;> omega)
    have a6 := up_or h i z (30 + 7 * m)
    have k3 := g3 m (by omega)
    rw [a1, a2, a4, a5, e5]
    rcases hu with h1 | h1 | h1 | ⟨q, h1⟩ | ⟨q, h1⟩ | ⟨q, h1, h2, h3, h4⟩ | ⟨q, h1⟩ | ⟨q, h1⟩
    · omega
    · omega
    · omega
    · omega
    · omega
    · by_cases eq : q = m
      · subst eq
        omega
      · omega
    · omega
    · omega
  · rw [up_ne (by omega : 73 + 2 * e ≠ i), up_ne (by omega : 74 + 2 * e ≠ i), e0, e1]
    exact g4 e (by omega)
