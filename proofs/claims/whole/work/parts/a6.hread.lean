/-! a house as it is read: numbers -/
abbrev PS : Type := Nat × (Nat → Int) × (Nat → List Nat) × (Nat → List Nat) × Bool × Bool
abbrev Rz : Type := PS ⊕ (Int × Nat)
def upN (g : Nat → List Nat) (i : Nat) (w : List Nat) : Nat → List Nat := fun k => if k = i then w else g k
theorem upN_eq {g : Nat → List Nat} {i : Nat} {w : List Nat} : upN g i w i = w := if_pos rfl
theorem upN_ne {g : Nat → List Nat} {i k : Nat} {w : List Nat} (e : k ≠ i) : upN g i w k = g k := if_neg e
section RD
variable (B : Nat → Int) (L : Nat)
def rFl (f : Nat) (c : Int) : Rz := .inr (flK B L f c, f)
def rSemi (S : PS) : Rz := if kdT B L S.1 = 4 ∧ vlT B L S.1 = 59 then .inl (nxT B L S.1, S.2) else rFl B L S.1 2
def rNum (lo hi : Int) (f : Nat) (k : Int → Nat → Rz) : Rz := if kdT B L f ≠ 3 then rFl B L f 2 else if ¬ (lo ≤ vlT B L f ∧ vlT B L f ≤ hi) then rFl B L f 4 else k (vlT B L f) (nxT B L f)
def rWord (n : Nat) (f : Nat) (k : Nat → Rz) : Rz := if kwT B L f = (n : Int) then k (nxT B L f) else rFl B L f 2
def rOld (tn : Nat → List Nat) (c : Nat) (f : Nat) (k : Nat → Nat → Rz) : Rz := if isNm B L f = false then rFl B L f 2 else match fnW tn c (wdH B L f) with
  | none => rFl B L f 3
  | some t => k t (nxT B L f)
def rNew (S : PS) (f : Nat) (k : Nat → Rz) : Rz := if isNm B L f = false then rFl B L f 2 else if fnW S.2.2.1 (S.2.1 0).toNat (wdH B L f) ≠ none ∨ fnW S.2.2.2.1 (S.2.1 1).toNat (wdH B L f) ≠ none then rFl B L f 3 else k (nxT B L f)
def addT (h : Nat → Int) (v : Int) : Nat → Int := up (up h (12 + 2 * (h 0).toNat) v) 0 (h 0 + 1)
def addM (h : Nat → Int) (v rs aw : Int) : Nat → Int := up (up (up (up (up h (24 + 7 * (h 1).toNat) v) (25 + 7 * (h 1).toNat) v) (26 + 7 * (h 1).toNat) rs) (27 + 7 * (h 1).toNat) aw) 1 (h 1 + 1)
def orF (h : Nat → Int) (i u : Nat) : Nat → Int := up h i ((((h i).toNat ||| 2 ^ u : Nat)) : Int)
def rTurn (S : PS) : Rz := if S.2.2.2.2.1 = true then rFl B L S.1 5 else rNum B L 1 99 (nxT B L S.1) (fun v f => rSemi B L (f, up S.2.1 3 v, S.2.2.1, S.2.2.2.1, true, S.2.2.2.2.2))
def rOdds (S : PS) : Rz := if S.2.2.2.2.2 = true then rFl B L S.1 5 else rNum B L 0 16 (nxT B L S.1) (fun v f => rSemi B L (f, up S.2.1 4 v, S.2.2.1, S.2.2.2.1, S.2.2.2.2.1, true))
def rTopic (S : PS) : Rz := if 6 ≤ S.2.1 0 then rFl B L S.1 6 else rNew B L S (nxT B L S.1) (fun f1 => rWord B L 7 f1 (fun f2 => rNum B L 0 20 f2 (fun v f3 => rSemi B L (f3, addT S.2.1 v, upN S.2.2.1 (S.2.1 0).toNat (wdH B L (nxT B L S.1)), S.2.2.2))))
def rMonk (S : PS) : Rz := if 7 ≤ S.2.1 1 then rFl B L S.1 6 else rNew B L S (nxT B L S.1) (fun f1 => rWord B L 8 f1 (fun f2 => rNum B L 0 99 f2 (fun v f3 =>
  (fun fin : Int → Nat → Rz => if kwT B L f3 = 9 then rNum B L 0 9 (nxT B L f3) fin else fin 1 f3) (fun rs f4 => rSemi B L (if kwT B L f4 = 10 then nxT B L f4 else f4, addM S.2.1 v rs (if kwT B L f4 = 10 then 0 else 1), S.2.2.1, upN S.2.2.2.1 (S.2.1 1).toNat (wdH B L (nxT B L S.1)), S.2.2.2.2)))))
def rFollow (S : PS) : Rz := rOld B L S.2.2.1 (S.2.1 0).toNat (nxT B L S.1) (fun t f1 => rOld B L S.2.2.1 (S.2.1 0).toNat f1 (fun u f2 => rSemi B L (f2, orF S.2.1 (13 + 2 * t) u, S.2.2)))
def rRoster (S : PS) : Rz := if 12 ≤ S.2.1 2 then rFl B L S.1 6 else rOld B L S.2.2.2.1 (S.2.1 1).toNat (nxT B L S.1) (fun m f1 => rOld B L S.2.2.1 (S.2.1 0).toNat f1 (fun t f2 => rSemi B L (f2, entF S.2.1 (m : Int) (t : Int), S.2.2)))
def rHear (S : PS) : Rz := rOld B L S.2.2.2.1 (S.2.1 1).toNat (nxT B L S.1) (fun m f1 => if isNm B L f1 = true ∧ fnW S.2.2.2.1 (S.2.1 1).toNat (wdH B L f1) = some m then rFl B L f1 5 else rOld B L S.2.2.2.1 (S.2.1 1).toNat f1 (fun o f2 => rSemi B L (f2, orF (orF S.2.1 (30 + 7 * m) o) (30 + 7 * o) m, S.2.2)))
def rPart (S : PS) : Rz := if kwT B L S.1 = 0 then rTurn B L S else if kwT B L S.1 = 1 then rOdds B L S else if kwT B L S.1 = 2 then rTopic B L S else if kwT B L S.1 = 3 then rMonk B L S else if kwT B L S.1 = 4 then rFollow B L S else if kwT B L S.1 = 5 then rRoster B L S else if kwT B L S.1 = 6 then rHear B L S else rFl B L S.1 2
end RD
/-- what is so of a house as far as it is read -/
def PI (L : Nat) (S : PS) : Prop := S.1 ≤ L ∧ WP S.2.1 ∧ S.2.1 5 = 0 ∧ S.2.1 6 = 0 ∧ S.2.1 7 = 0 ∧ S.2.1 8 = 0 ∧ S.2.1 9 = -1 ∧ S.2.1 10 = -1 ∧ (∀ t : Nat, S.2.1 0 ≤ (t : Int) → t < 6 → S.2.1 (13 + 2 * t) = 0) ∧ (∀ m w : Nat, S.2.1 1 ≤ (m : Int) → m < 7 → 4 ≤ w → w < 7 → S.2.1 (24 + w + 7 * m) = 0) ∧ SymE S.2.1 ∧ (∀ t : Nat, (t : Int) < S.2.1 0 → WordOk (S.2.2.1 t) ∧ kwI (S.2.2.1 t) = none) ∧ (∀ m : Nat, (m : Int) < S.2.1 1 → WordOk (S.2.2.2.1 m) ∧ kwI (S.2.2.2.1 m) = none) ∧ (∀ a b : Nat, (a : Int) < S.2.1 1 → (b : Int) < S.2.1 1 → S.2.2.2.1 a = S.2.2.2.1 b → a = b) ∧ (∀ a b : Nat, (a : Int) < S.2.1 1 → S.2.1 1 ≤ (b : Int) → (S.2.1 (30 + 7 * a)).toNat.testBit b = false)
/-- the class as far as it has read -/
def CR (σ : AM) (B : Nat → Int) (L q : Nat) (S : PS) : Prop := AC σ B L S.1 ∧ HRep σ q S.2.1 ∧ (∀ t : Nat, (t : Int) < S.2.1 0 → σ.2.1 24 q t = Int64.ofInt ((enc5 (S.2.2.1 t) : Nat) : Int)) ∧ (∀ m : Nat, (m : Int) < S.2.1 1 → σ.2.1 28 q m = Int64.ofInt ((enc5 (S.2.2.2.1 m) : Nat) : Int)) ∧ σ.2.2 6 0 1 = q ∧ q < 9 ∧ σ.1 6 0 2 = bI S.2.2.2.2.1 ∧ σ.1 6 0 3 = bI S.2.2.2.2.2 ∧ σ.1 3 0 3 = Int32.ofInt 0 ∧ σ.1 3 0 4 = Int32.ofInt (-1)
def OC (σ : AM) (B : Nat → Int) (L q : Nat) (R : Rz) (b : Bool) : Prop := match R with
  | .inl S => b = true ∧ CR σ B L q S
  | .inr (c, p) => b = false ∧ σ.1 3 0 3 = Int32.ofInt c ∧ σ.1 3 0 4 = Int32.ofInt (p : Int)
def hrS (q t i j : Nat) : Prop := (t = 3 ∧ i = 0 ∧ j ≠ 2 ∧ j ≠ 10) ∨ HS q t i ∨ (t = 6 ∧ i = 0)
def hrL (q t i j : Nat) : Prop := (t = 3 ∧ i = 0 ∧ j = 9) ∨ ((t = 24 ∨ t = 28) ∧ i = q)
theorem CR.tk {σ σ' : AM} {B : Nat → Int} {L q : Nat} {S : PS} {f : Nat} (h : CR σ B L q S) (hc : ChA tkS tkL σ σ') (ha : AC σ' B L f) : CR σ' B L q (f, S.2) := by
  obtain ⟨h1, h2, h3, h4, h5, h6, h7, h8, h9, h10⟩ := h
  refine ⟨ha, h2.cha hc (fun t j a b => by unfold tkS; omega), fun t ht => ?_, fun m hm => ?_, by rw [hc.2.2]; exact h5, h6, ?_, ?_, ?_, ?_⟩
  · rw [hc.2.1 _ _ _ (by unfold tkL; omega)]; exact h3 t ht
  · rw [hc.2.1 _ _ _ (by unfold tkL; omega)]; exact h4 m hm
  · rw [hc.1 _ _ _ (by unfold tkS; omega)]; exact h7
  · rw [hc.1 _ _ _ (by unfold tkS; omega)]; exact h8
  · rw [hc.1 _ _ _ (by unfold tkS; omega)]; exact h9
  · rw [hc.1 _ _ _ (by unfold tkS; omega)]; exact h10
theorem tk_hr {σ σ' : AM} {q : Nat} (hc : ChA tkS tkL σ σ') : ChA (hrS q) (hrL q) σ σ' := hc.mo (fun t i j z => Or.inl (by unfold tkS at z; omega)) (fun t i j z => Or.inl (by unfold tkL at z; omega))
theorem fC_hr {σ : AM} {B : Nat → Int} {L f q : Nat} {c : Int} : ChA (hrS q) (hrL q) σ (fC σ B L f c) := (ChA.wI (Or.inl ⟨rfl, rfl, by omega, by omega⟩)).tr (ChA.wI (Or.inl ⟨rfl, rfl, by omega, by omega⟩))
theorem OC.fl {σ : AM} {B : Nat → Int} {L f q : Nat} {c : Int} : OC (fC σ B L f c) B L q (rFl B L f c) false := ⟨rfl, by show (wI (wI σ 3 0 3 _) 3 0 4 _).1 3 0 3 = _; rw [wI1, if_neg (by omega), wI_16], by show (wI (wI σ 3 0 3 _) 3 0 4 _).1 3 0 4 = _; rw [wI_16]⟩
theorem c_semi {CALL : CT} (hC : RuleAll CALL) {r : Nat} {σ : AM} {K : AV → AM → Prop} {B : Nat → Int} {L q : Nat} {S : PS} (hc : CR σ B L q S) (h : ∀ (b : Bool) (σ' : AM), OC σ' B L q (rSemi B L S) b → ChA (hrS q) (hrL q) σ σ' → K (.inl (bI b)) σ') : CALL (r + 3) n_Tape_skipSemicolon [.inr (.inr (3, 0))] σ K := by
  refine s_skipSemi hC hc.1 (fun z σ' k1 k2 => ?_) (fun z => ?_)
  · refine h true σ' ?_ (tk_hr k2)
    unfold rSemi
    rw [if_pos z]
    exact ⟨rfl, hc.tk k2 k1⟩
  · refine h false _ ?_ fC_hr
    unfold rSemi
    rw [if_neg z]
    exact OC.fl
/-- a number that is wanted -/
theorem c_num {CALL : CT} (hC : RuleAll CALL) {r : Nat} {σ : AM} {K : AV → AM → Prop} {B : Nat → Int} {L f q : Nat} {lo hi : Int} {k : Int → Nat → Rz} (ha : AC σ B L f) (l1 : 0 ≤ lo) (l2 : lo ≤ 10000) (u1 : 0 ≤ hi) (u2 : hi ≤ 10000) (h1 : ∀ σ' : AM, lo ≤ vlT B L f → vlT B L f ≤ hi → AC σ' B L (nxT B L f) → ChA tkS tkL σ σ' → rNum B L lo hi f k = k (vlT B L f) (nxT B L f) → K (.inl (Int32.ofInt (vlT B L f))) σ') (h2 : ∀ σ' : AM, OC σ' B L q (rNum B L lo hi f k) false → ChA (hrS q) (hrL q) σ σ' → K (.inl (Int32.ofInt (-1))) σ') : CALL (r + 3) n_Tape_takeNumber [.inr (.inr (3, 0)), .inl (Int32.ofInt lo), .inl (Int32.ofInt hi)] σ K := by
  refine s_takeNumber hC ha l1 l2 u1 u2 (fun z σ' k1 k2 => ?_) (fun z => ?_) (fun z z2 => ?_)
  · refine h1 σ' z.2.1 z.2.2 k1 k2 ?_
    unfold rNum
    rw [if_neg (fun y => y z.1), if_neg (fun y => y z.2)]
  · refine h2 _ ?_ fC_hr
    unfold rNum
    rw [if_pos z]
    exact OC.fl
  · refine h2 _ ?_ fC_hr
    unfold rNum
    rw [if_neg (fun y => y z), if_pos z2]
    exact OC.fl
theorem c_word {CALL : CT} (hC : RuleAll CALL) {r : Nat} {σ : AM} {K : AV → AM → Prop} {B : Nat → Int} {L f q n : Nat} {x : Int} {k : Nat → Rz} (ha : AC σ B L f) (hn : n < 23) (hx : x = kmC (n : Int)) (h1 : ∀ σ' : AM, AC σ' B L (nxT B L f) → ChA tkS tkL σ σ' → rWord B L n f k = k (nxT B L f) → K (.inl (Int32.ofInt 1)) σ') (h2 : ∀ σ' : AM, OC σ' B L q (rWord B L n f k) false → ChA (hrS q) (hrL q) σ σ' → K (.inl (Int32.ofInt 0)) σ') : CALL (r + 3) n_Tape_skipWord [.inr (.inr (3, 0)), .inl (Int32.ofInt x)] σ K := by
  refine s_skipWord hC ha hn hx (fun z σ' k1 k2 => ?_) (fun z => ?_)
  · refine h1 σ' k1 k2 ?_
    unfold rWord
    rw [if_pos z]
  · refine h2 _ ?_ fC_hr
    unfold rWord
    rw [if_neg z]
    exact OC.fl
/-- a name that is known: found first, then passed -/
theorem c_old {CALL : CT} (hC : RuleAll CALL) {r : Nat} {σ : AM} {K : AV → AM → Prop} {B : Nat → Int} {L f q c : Nat} {tn : Nat → List Nat} {x : Int} {k : Nat → Nat → Rz} (ha : AC σ B L f) (x1 : -1 ≤ x) (x2 : x ≤ 100) (hx : isNm B L f = true → x = opI (fnW tn c (wdH B L f))) (h1 : ∀ (t : Nat) (σ' : AM), isNm B L f = true → fnW tn c (wdH B L f) = some t → x = (t : Int) → AC σ' B L (nxT B L f) → ChA tkS tkL σ σ' → rOld B L tn c f k = k t (nxT B L f) → K (.inl (Int32.ofInt 1)) σ') (h2 : ∀ σ' : AM, OC σ' B L q (rOld B L tn c f k) false → ChA (hrS q) (hrL q) σ σ' → K (.inl (Int32.ofInt 0)) σ') : CALL (r + 3) n_Tape_skipName [.inr (.inr (3, 0)), .inl (Int32.ofInt x)] σ K := by
  have fb := fnW_bd tn c (wdH B L f)
  refine s_skipNm hC ha x1 x2 (fun z z2 σ' k1 k2 => ?_) (fun z => ?_) (fun z z2 => ?_)
  · have e := hx z
    cases ef : fnW tn c (wdH B L f) with
    | none =>
      rw [ef] at e
      exact absurd e z2
    | some t =>
      rw [ef] at e
      refine h1 t σ' z ef e k1 k2 ?_
      unfold rOld
      rw [if_neg (by rw [z]; decide), ef]
  · refine h2 _ ?_ fC_hr
    unfold rOld
    rw [if_pos z]
    exact OC.fl
  · have e := hx z
    refine h2 _ ?_ fC_hr
    have ef : fnW tn c (wdH B L f) = none := fb.2.2.1.mp (by omega)
    unfold rOld
    rw [if_neg (by rw [z]; decide), ef]
    exact OC.fl
