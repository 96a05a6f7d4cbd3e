/-! days as they are lived -/
def drw (g : Int) : Int := (g * 3119 + 11329) % 65536
abbrev DS : Type := (Nat → Int) × Int × Int
def cmpS (sg a b : Int) : Bool := if sg = 60 then decide (a < b) else if sg = 62 then decide (b < a) else decide (a = b)
def holdS (f h : Nat → Int) : Bool := if f 0 = 1620 then decide (h 8 = f 1) else if f 0 = 1621 then decide (h 9 = f 1) else if f 0 = 1608 then cmpS (f 5) (h (24 + 7 * (f 1).toNat)) (f 2) else cmpS (f 5) (h 6) (f 2)
def doF (f : Nat → Int) (S : DS) : DS :=
  if f 0 = 11 then (if 9999 < S.1 5 + f 1 then (S.1, S.2.1, S.2.2 + 1) else (minN (f 1).toNat S.1, S.2.1, S.2.2))
  else if f 0 = 12 then (up S.1 8 (f 1), S.2.1, S.2.2 + (if S.1 8 = f 1 then 1 else 0))
  else if f 0 = 13 then (up S.1 (27 + 7 * (f 1).toNat) 1, S.2.1, S.2.2 + (if S.1 (27 + 7 * (f 1).toNat) = 1 then 1 else 0))
  else if f 0 = 14 then (up S.1 (27 + 7 * (f 1).toNat) 0, S.2.1, S.2.2 + (if S.1 (27 + 7 * (f 1).toNat) = 0 then 1 else 0))
  else if f 0 = 15 then (if S.1 1 = 0 then (S.1, S.2.1, S.2.2 + 1) else (up S.1 (24 + 7 * (drw S.2.1 / 8 % S.1 1).toNat) (max 0 (S.1 (24 + 7 * (drw S.2.1 / 8 % S.1 1).toNat) - drw (drw S.2.1) / 8 % 8)), drw (drw S.2.1), S.2.2))
  else S
def GD (h0 h : Nat → Int) : Prop := WP h ∧ h 5 ≤ 9999 ∧ h 0 = h0 0 ∧ h 1 = h0 1 ∧ h 10 = h0 10 ∧ ∀ m : Nat, h (30 + 7 * m) = h0 (30 + 7 * m)
theorem drw_bd {g : Int} : 0 ≤ drw g ∧ drw g < 65536 := ⟨Int.emod_nonneg _ (by decide), Int.emod_lt_of_pos _ (by decide)⟩
theorem minN_10 (k : Nat) (h : Nat → Int) : minN k h 10 = h 10 := minN_lo k h (by omega)
theorem GD.up {h0 h : Nat → Int} {i : Nat} {z : Int} (hg : GD h0 h) (hu : upOk h i z) (hi : ∀ m : Nat, i ≠ 30 + 7 * m) : GD h0 (up h i z) := by
  obtain ⟨g1, g2, g3, g4, g5, g6⟩ := hg
  have ui := upOk_i g1.1 hu
  refine ⟨g1.upd hu, by rw [up_ne (by omega)]; exact g2, by rw [up_ne (by omega)]; exact g3, by rw [up_ne (by omega)]; exact g4, by rw [up_ne (by omega)]; exact g5, fun m => ?_⟩
  rw [up_ne (fun z => hi m z.symm)]
  exact g6 m
theorem doF_GD {h0 : Nat → Int} {a b : Int} {f : Nat → Int} {S : DS} (hg : GD h0 S.1) (ha : h0 0 = a) (hb : h0 1 = b) (hf : StepOk a b f) (g0 : 0 ≤ S.2.1) (g1 : S.2.1 < 65536) : GD h0 (doF f S).1 ∧ 0 ≤ (doF f S).2.1 ∧ (doF f S).2.1 < 65536 ∧ S.2.2 ≤ (doF f S).2.2 ∧ (doF f S).2.2 ≤ S.2.2 + 1 := by
  have bb := hg.1.1.1
  have e1 : S.1 1 = b := hg.2.2.2.1.trans hb
  have hg2 := hg.2.1
  unfold StepOk at hf
  unfold doF
  by_cases c11 : f 0 = 11
  · rw [if_pos c11]
    split
    · exact ⟨hg, g0, g1, by show S.2.2 ≤ S.2.2 + 1; omega, by show S.2.2 + 1 ≤ S.2.2 + 1; omega⟩
    · rename_i hc
      have wk := minN_WF (f 1).toNat hg.1 (by omega)
      refine ⟨⟨wk.1, ?_, ?_, ?_, ?_, fun m => ?_⟩, g0, g1, Int.le_refl _, by show S.2.2 ≤ S.2.2 + 1; omega⟩
      · show minN (f 1).toNat S.1 5 ≤ 9999
        rw [wk.2]
        omega
      · show minN (f 1).toNat S.1 0 = _
        rw [minN_lo _ _ (by omega)]; exact hg.2.2.1
      · show minN (f 1).toNat S.1 1 = _
        rw [minN_lo _ _ (by omega)]; exact hg.2.2.2.1
      · show minN (f 1).toNat S.1 10 = _
        rw [minN_10]; exact hg.2.2.2.2.1
      · show minN (f 1).toNat S.1 (30 + 7 * m) = _
        rw [minN_ear]; exact hg.2.2.2.2.2 m
  rw [if_neg c11]
  by_cases c12 : f 0 = 12
  · rw [if_pos c12]
    refine ⟨hg.up (i := 8) (Or.inr (Or.inr (Or.inl ⟨rfl, by omega, by omega⟩))) (fun m => by omega), g0, g1, ?_, ?_⟩
    · show S.2.2 ≤ S.2.2 + _; split <;> omega
    · show S.2.2 + _ ≤ S.2.2 + 1; split <;> omega
  rw [if_neg c12]
  by_cases c13 : f 0 = 13
  · rw [if_pos c13]
    refine ⟨hg.up (i := 27 + 7 * (f 1).toNat) (Or.inr (Or.inr (Or.inr (Or.inr (Or.inr (Or.inr (Or.inl ⟨(f 1).toNat, by omega, rfl, by omega, by omega⟩))))))) (fun m => by omega), g0, g1, ?_, ?_⟩
    · show S.2.2 ≤ S.2.2 + _; split <;> omega
    · show S.2.2 + _ ≤ S.2.2 + 1; split <;> omega
  rw [if_neg c13]
  by_cases c14 : f 0 = 14
  · rw [if_pos c14]
    refine ⟨hg.up (i := 27 + 7 * (f 1).toNat) (Or.inr (Or.inr (Or.inr (Or.inr (Or.inr (Or.inr (Or.inl ⟨(f 1).toNat, by omega, rfl, by omega, by omega⟩))))))) (fun m => by omega), g0, g1, ?_, ?_⟩
    · show S.2.2 ≤ S.2.2 + _; split <;> omega
    · show S.2.2 + _ ≤ S.2.2 + 1; split <;> omega
  rw [if_neg c14]
  by_cases c15 : f 0 = 15
  · rw [if_pos c15]
    by_cases c1 : S.1 1 = 0
    · rw [if_pos c1]
      exact ⟨hg, g0, g1, by show S.2.2 ≤ S.2.2 + 1; omega, by show S.2.2 + 1 ≤ S.2.2 + 1; omega⟩
    · rw [if_neg c1]
      have d1 := drw_bd (g := S.2.1)
      have d2 := drw_bd (g := drw S.2.1)
      have m1 := Int.emod_nonneg (drw S.2.1 / 8) c1
      have m2 := Int.emod_lt_of_pos (drw S.2.1 / 8) (by omega : 0 < S.1 1)
      have mm : (((drw S.2.1 / 8 % S.1 1).toNat : Nat) : Int) < S.1 1 := by omega
      have hq := hg.1.1.2.2.1 _ mm
      have l1 := Int.emod_nonneg (drw (drw S.2.1) / 8) (by decide : (8 : Int) ≠ 0)
      refine ⟨hg.up (i := 24 + 7 * (drw S.2.1 / 8 % S.1 1).toNat) (Or.inr (Or.inr (Or.inr (Or.inr (Or.inr (Or.inl ⟨_, mm, rfl, by omega, by omega⟩)))))) (fun m => by omega), d2.1, d2.2, Int.le_refl _, by show S.2.2 ≤ S.2.2 + 1; omega⟩
  rw [if_neg c15]
  exact ⟨hg, g0, g1, Int.le_refl _, by omega⟩
/-- behind ends -/
def endsF (d : Nat → Nat → Int) (s : Nat) : Nat → Nat → (Nat → Int) → Nat × (Nat → Int)
  | 0, k, lp => (k, lp)
  | f + 1, k, lp => if k < s ∧ d k 0 = 18 then (if d (d k 4).toNat 0 = 17 ∧ 0 < lp (d k 4).toNat ∧ (d k 4).toNat + 1 ≠ k then ((d k 4).toNat + 1, up lp (d k 4).toNat (lp (d k 4).toNat - 1)) else endsF d s f (k + 1) lp) else (k, lp)
/-- a loop in which a place stands -/
def LC (d : Nat → Nat → Int) (k o : Nat) : Prop := d o 0 = 17 ∧ o < k ∧ (k : Int) ≤ d o 4
def LOk (d : Nat → Nat → Int) (k : Nat) (lp : Nat → Int) : Prop := ∀ o, LC d k o → 0 ≤ lp o ∧ lp o ≤ 98
section WDs
variable {a b : Int} {d : Nat → Nat → Int} {s : Nat} {dep : Nat → Nat}
theorem WD.op (w : WD a b d s dep) {k : Nat} (hk : k < s) (ho : isOp (d k 0)) : dep (k + 1) = dep k + 1 ∧ ∃ e : Nat, d k 4 = (e : Int) ∧ k < e ∧ e < s ∧ d e 0 = 18 ∧ d e 4 = (k : Int) ∧ dep (e + 1) = dep k ∧ ∀ q, k < q → q ≤ e → dep k < dep q := (w.2.2.2.2 k hk).2.1 ho
theorem WD.en (w : WD a b d s dep) {k : Nat} (hk : k < s) (he : d k 0 = 18) : dep k = dep (k + 1) + 1 ∧ ∃ o : Nat, d k 4 = (o : Int) ∧ o < k ∧ isOp (d o 0) ∧ d o 4 = (k : Int) := (w.2.2.2.2 k hk).2.2.1 he
/-- from a place to the next: no loop is entered -/
theorem LC.nx {k o : Nat} (h : LC d (k + 1) o) (hk : d k 0 ≠ 17) : LC d k o := by
  obtain ⟨h1, h2, h3⟩ := h
  refine ⟨h1, ?_, by omega⟩
  have : o ≠ k := fun e => hk (by rw [← e]; exact h1)
  omega
/-- over a block -/
theorem LC.over (w : WD a b d s dep) {k e o : Nat} (hk : k < s) (ho : isOp (d k 0)) (he : d k 4 = (e : Int)) (h17 : d k 0 ≠ 17) (os : o < s) (h : LC d (e + 1) o) : LC d k o := by
  obtain ⟨h1, h2, h3⟩ := h
  obtain ⟨p1, e', p2, p3, p4, p5, p6, p7, p8⟩ := w.op hk ho
  obtain rfl : e = e' := by omega
  have ok : o ≠ k := fun z => h17 (by rw [← z]; exact h1)
  have oe : o ≠ e := fun z => by rw [z, p5] at h1; omega
  by_cases lt : o < k
  · exact ⟨h1, lt, by omega⟩
  · obtain ⟨-, e2, q2, q3, q4, q5, q6, q7, q8⟩ := w.op os (Or.inl h1)
    have a1 := p8 o (by omega) (by omega)
    have a2 := q8 (e + 1) (by omega) (by omega)
    omega
/-- back to the beginning of a block -/
theorem LC.back (w : WD a b d s dep) {k o q : Nat} (hk : k < s) (he : d k 0 = 18) (ho : d k 4 = (o : Int)) (qs : q < s) (h : LC d (o + 1) q) : q = o ∨ LC d k q := by
  obtain ⟨h1, h2, h3⟩ := h
  obtain ⟨-, o', p2, p3, p4, p5⟩ := w.en hk he
  obtain rfl : o = o' := by omega
  by_cases eq : q = o
  · exact Or.inl eq
  · refine Or.inr ⟨h1, by omega, ?_⟩
    obtain ⟨-, e1, r2, r3, r4, r5, r6, r7, r8⟩ := w.op (by omega : o < s) p4
    obtain ⟨-, e2, q2, q3, q4, q5, q6, q7, q8⟩ := w.op qs (Or.inl h1)
    have a1 := q8 o (by omega) (by omega)
    by_cases lt : k ≤ e2
    · omega
    · exfalso
      have a2 := r8 (e2 + 1) (by omega) (by omega)
      omega
theorem LC.lt (w : WD a b d s dep) {k o : Nat} (h : LC d k o) (hk : k ≤ s) : o < s := by have := h.2.1; omega
/-- at the beginning of a block that isn't empty no end stands -/
theorem WD.first (w : WD a b d s dep) {k o : Nat} (hk : k < s) (he : d k 0 = 18) (ho : d k 4 = (o : Int)) (hne : o + 1 ≠ k) : d (o + 1) 0 ≠ 18 := by
  obtain ⟨-, o', p2, p3, p4, p5⟩ := w.en hk he
  obtain rfl : o = o' := by omega
  obtain ⟨r1, e1, r2, r3, r4, r5, r6, r7, r8⟩ := w.op (by omega : o < s) p4
  intro h18
  obtain ⟨q1, o2, q2, q3, q4, q5⟩ := w.en (by omega : o + 1 < s) h18
  have a1 := r8 (o + 1 + 1) (by omega) (by omega)
  omega
theorem endsF_ok (w : WD a b d s dep) : ∀ (f k : Nat) (lp : Nat → Int), k ≤ s → dep k ≤ f → (endsF d s f k lp).1 ≤ s ∧ ((endsF d s f k lp).1 < s → d (endsF d s f k lp).1 0 ≠ 18)
  | 0, k, lp, hk, hd => ⟨hk, fun h => fun h18 => by have := (w.en (k := k) h h18).1; omega⟩
  | f + 1, k, lp, hk, hd => by
    rw [endsF]
    by_cases c : k < s ∧ d k 0 = 18
    · rw [if_pos c]
      obtain ⟨p1, o, p2, p3, p4, p5⟩ := w.en c.1 c.2
      rw [p2, Int.toNat_natCast]
      by_cases c2 : d o 0 = 17 ∧ 0 < lp o ∧ o + 1 ≠ k
      · rw [if_pos c2]
        exact ⟨by show o + 1 ≤ s; omega, fun _ => w.first c.1 c.2 p2 c2.2.2⟩
      · rw [if_neg c2]
        exact endsF_ok w f (k + 1) lp (by omega) (by omega)
    · rw [if_neg c]
      exact ⟨hk, fun h1 h18 => c ⟨h1, h18⟩⟩
end WDs
/-- the whole of it: so many steps are left -/
def nxtF (d : Nat → Nat → Int) (k : Nat) (h : Nat → Int) : Nat := if 1600 ≤ d k 0 ∧ holdS (d k) h = false then (d k 4).toNat + 1 else k + 1
def lpF (d : Nat → Nat → Int) (k : Nat) (lp : Nat → Int) : Nat → Int := if d k 0 = 17 then up lp k (d k 1 - 1) else lp
def runF (d : Nat → Nat → Int) (s : Nat) : Nat → Nat → (Nat → Int) → DS → DS × Nat × Bool
  | 0, k, _, S => (S, 0, decide (k < s))
  | n + 1, k, lp, S => if k < s then (if d k 0 = 19 then (S, n, false) else runF d s n (endsF d s 3 (nxtF d k (doF (d k) S).1) (lpF d k lp)).1 (endsF d s 3 (nxtF d k (doF (d k) S).1) (lpF d k lp)).2 (doF (d k) S)) else (S, n + 1, false)
