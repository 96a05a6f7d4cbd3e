/-! the days' steps as they are read: token, steps, what each holds, open ones, which, how many but ends -/
abbrev DZ : Type := Nat × Nat × (Nat → Nat → Int) × Nat × (Nat → Nat) × Nat
abbrev Rd : Type := DZ ⊕ (Int × Nat)
def upD (d : Nat → Nat → Int) (k : Nat) (g : Nat → Int) : Nat → Nat → Int := fun i => if i = k then g else d i
theorem upD_eq {d : Nat → Nat → Int} {k : Nat} {g : Nat → Int} : upD d k g k = g := if_pos rfl
theorem upD_ne {d : Nat → Nat → Int} {k i : Nat} {g : Nat → Int} (e : i ≠ k) : upD d k g i = d i := if_neg e
def stp (x a v sg : Int) : Nat → Int := fun j => if j = 0 then x else if j = 1 then a else if j = 2 then v else if j = 5 then sg else 0
def upS (g : Nat → Nat) (i k : Nat) : Nat → Nat := fun j => if j = i then k else g j
section DD
variable (B : Nat → Int) (L : Nat) (tn mn : Nat → List Nat) (a b : Nat)
def dFl (f : Nat) (c : Int) : Rd := .inr (flK B L f c, f)
def dSemi (S : DZ) : Rd := if kdT B L S.1 = 4 ∧ vlT B L S.1 = 59 then .inl (nxT B L S.1, S.2) else dFl B L S.1 2
def dNum (lo hi : Int) (f : Nat) (k : Int → Nat → Rd) : Rd := if kdT B L f ≠ 3 then dFl B L f 2 else if ¬ (lo ≤ vlT B L f ∧ vlT B L f ≤ hi) then dFl B L f 4 else k (vlT B L f) (nxT B L f)
def dOld (nm : Nat → List Nat) (c : Nat) (f : Nat) (k : Nat → Nat → Rd) : Rd := if isNm B L f = false then dFl B L f 2 else match fnW nm c (wdH B L f) with
  | none => dFl B L f 3
  | some t => k t (nxT B L f)
def dCmp (f : Nat) (k : Int → Nat → Rd) : Rd := if kdT B L f = 4 ∧ vlT B L f ≠ 59 then k (vlT B L f) (nxT B L f) else dFl B L f 2
def dTest (f : Nat) (k : (Nat → Int) → Nat → Rd) : Rd :=
  if ¬ (kwT B L f = 8 ∨ 20 ≤ kwT B L f) then dFl B L f 2
  else if kwT B L f = 20 then dOld B L mn b (nxT B L f) (fun m g => k (stp 1620 (m : Int) 0 0) g)
  else if kwT B L f = 21 then dOld B L tn a (nxT B L f) (fun t g => k (stp 1621 (t : Int) 0 0) g)
  else if kwT B L f = 8 then dOld B L mn b (nxT B L f) (fun m g => dCmp B L g (fun sg g2 => dNum B L 0 99 g2 (fun v g3 => k (stp 1608 (m : Int) v sg) g3)))
  else dCmp B L (nxT B L f) (fun sg g2 => dNum B L 0 9999 g2 (fun v g3 => k (stp 1622 0 v sg) g3))
/-- one step more -/
def dAdd (S : DZ) (f : Nat) (g : Nat → Int) : DZ := (f, S.2.1 + 1, upD S.2.2.1 S.2.1 g, S.2.2.2.1, S.2.2.2.2.1, S.2.2.2.2.2 + 1)
/-- one that opens -/
def dOpn (S : DZ) (f : Nat) (g : Nat → Int) : DZ := (f, S.2.1 + 1, upD S.2.2.1 S.2.1 g, S.2.2.2.1 + 1, upS S.2.2.2.2.1 S.2.2.2.1 S.2.1, S.2.2.2.2.2 + 1)
/-- an end -/
def dEnd (S : DZ) (f : Nat) : DZ := (f, S.2.1 + 1, upD (upD S.2.2.1 S.2.1 (up (stp 18 0 0 0) 4 ((S.2.2.2.2.1 (S.2.2.2.1 - 1) : Nat) : Int))) (S.2.2.2.2.1 (S.2.2.2.1 - 1)) (up (S.2.2.1 (S.2.2.2.2.1 (S.2.2.2.1 - 1))) 4 (S.2.1 : Int)), S.2.2.2.1 - 1, S.2.2.2.2.1, S.2.2.2.2.2)
def dStep (S : DZ) : Rd :=
  if ¬ (11 ≤ kwT B L S.1 ∧ kwT B L S.1 ≤ 19) ∨ (kwT B L S.1 = 18 ∧ S.2.2.2.1 = 0) then dFl B L S.1 2
  else if kwT B L S.1 = 18 then dSemi B L (dEnd S (nxT B L S.1))
  else if 30 ≤ S.2.2.2.2.2 then dFl B L S.1 6
  else if (kwT B L S.1 = 16 ∨ kwT B L S.1 = 17) ∧ 3 ≤ S.2.2.2.1 then dFl B L S.1 7
  else if kwT B L S.1 = 11 then dNum B L 1 60 (nxT B L S.1) (fun v f => dSemi B L (dAdd S f (stp 11 v 0 0)))
  else if kwT B L S.1 = 17 then dNum B L 1 99 (nxT B L S.1) (fun v f => dSemi B L (dOpn S f (stp 17 v 0 0)))
  else if kwT B L S.1 = 16 then dTest B L tn mn a b (nxT B L S.1) (fun g f => dSemi B L (dOpn S f g))
  else if kwT B L S.1 = 15 ∨ kwT B L S.1 = 19 then dSemi B L (dAdd S (nxT B L S.1) (stp (kwT B L S.1) 0 0 0))
  else dOld B L mn b (nxT B L S.1) (fun m f => dSemi B L (dAdd S f (stp (kwT B L S.1) (m : Int) 0 0)))
def dAll : Nat → DZ → Rd
  | 0, S => .inl S
  | n + 1, S => if kdT B L S.1 = 0 then .inl S else match dStep B L tn mn a b S with
    | .inl S' => dAll n S'
    | .inr e => .inr e
end DD
/-- what is so of steps as far as they are read -/
def DI (a b : Int) (L : Nat) (S : DZ) (dep : Nat → Nat) : Prop :=
  S.1 ≤ L ∧ S.2.2.2.2.2 ≤ 30 ∧ S.2.1 + S.2.2.2.1 ≤ 2 * S.2.2.2.2.2 ∧ S.2.2.2.1 ≤ 3 ∧ dep 0 = 0 ∧ dep S.2.1 = S.2.2.2.1 ∧ (∀ k, k ≤ S.2.1 → dep k ≤ 3) ∧
  (∀ i, i < S.2.2.2.1 → S.2.2.2.2.1 i < S.2.1 ∧ isOp (S.2.2.1 (S.2.2.2.2.1 i) 0) ∧ dep (S.2.2.2.2.1 i) = i ∧ ∀ q, S.2.2.2.2.1 i < q → q ≤ S.2.1 → i < dep q) ∧
  (∀ k, k < S.2.1 → StepOk a b (S.2.2.1 k) ∧
    (isOp (S.2.2.1 k 0) → dep (k + 1) = dep k + 1 ∧ ((∃ i, i < S.2.2.2.1 ∧ S.2.2.2.2.1 i = k) ∨ ∃ e : Nat, S.2.2.1 k 4 = (e : Int) ∧ k < e ∧ e < S.2.1 ∧ S.2.2.1 e 0 = 18 ∧ S.2.2.1 e 4 = (k : Int) ∧ dep (e + 1) = dep k ∧ ∀ q, k < q → q ≤ e → dep k < dep q)) ∧
    (S.2.2.1 k 0 = 18 → dep k = dep (k + 1) + 1 ∧ ∃ o : Nat, S.2.2.1 k 4 = (o : Int) ∧ o < k ∧ isOp (S.2.2.1 o 0) ∧ S.2.2.1 o 4 = (k : Int) ∧ dep (k + 1) = dep o) ∧
    (¬ isOp (S.2.2.1 k 0) → S.2.2.1 k 0 ≠ 18 → dep (k + 1) = dep k))
theorem DI.fin {a b : Int} {L : Nat} {S : DZ} {dep : Nat → Nat} (h : DI a b L S dep) (ho : S.2.2.2.1 = 0) : WD a b S.2.2.1 S.2.1 dep := by
  obtain ⟨p1, p2, p3, p4, p5, p6, p7, p8, p9⟩ := h
  refine ⟨by omega, p5, by omega, p7, fun k hk => ?_⟩
  obtain ⟨q1, q2, q3, q4⟩ := p9 k hk
  refine ⟨q1, fun z => ?_, fun z => ?_, q4⟩
  rotate_left
  · obtain ⟨w1, w, w2, w3, w4, w5, _⟩ := q3 z
    exact ⟨w1, w, w2, w3, w4, w5⟩
  obtain ⟨w1, w2⟩ := q2 z
  refine ⟨w1, ?_⟩
  rcases w2 with ⟨i, i1, _⟩ | w2
  · omega
  · exact w2
