/-! the shifts that tire least: all ways, one after the other -/
abbrev Acc : Type := Int × (Nat → Int)
def leB (h : Nat → Int) : Int := mnF 1000000 (fun m => h (24 + 7 * m)) (h 1).toNat
def okK (h : Nat → Int) (k : Nat) : Bool := decide (((k % 6 : Nat) : Int) < h 0) && canS h (k / 6) (k % 6)
def seaL (f : Nat → Acc → Acc) : Nat → Nat → Acc → Acc
  | 0, _, a => a
  | c + 1, k, a => seaL f c (k + 1) (f k a)
def sea : Nat → (Nat → Int) → Nat → (Nat → Int) → Acc → Acc
  | 0, h, _, w, a => if a.1 < leB h then (leB h, w) else a
  | d + 1, h, i, w, a => seaL (fun k a => if okK h k then sea d (goF h (some (k / 6, k % 6))) (i + 1) (up w i (k : Int)) a else a) (6 * (h 1).toNat) 0 a
def seaK (d : Nat) (h : Nat → Int) (i : Nat) (w : Nat → Int) (k : Nat) (a : Acc) : Acc := if okK h k then sea d (goF h (some (k / 6, k % 6))) (i + 1) (up w i (k : Int)) a else a
theorem sea_s (d : Nat) (h : Nat → Int) (i : Nat) (w : Nat → Int) (a : Acc) : sea (d + 1) h i w a = seaL (seaK d h i w) (6 * (h 1).toNat) 0 a := rfl
def lrS (h : Nat → Int) (but k : Int) : Nat → Int
  | 0 => 99
  | i + 1 => if (i : Int) = but then lrS h but k i else min (lrS h but k i) (min (h (25 + 7 * i)) (h (24 + 7 * i) + h (26 + 7 * i) * k))
theorem lrS_le (h : Nat → Int) (but k x : Int) : ∀ i, x ≤ lrS h but k i ↔ (x ≤ 99 ∧ ∀ j : Nat, j < i → (j : Int) ≠ but → x ≤ h (25 + 7 * j) ∧ x ≤ h (24 + 7 * j) + h (26 + 7 * j) * k)
  | 0 => ⟨fun q => ⟨q, fun j hj => by omega⟩, fun q => q.1⟩
  | i + 1 => by
    have ih := lrS_le h but k x i
    rw [lrS]
    by_cases e : (i : Int) = but
    · rw [if_pos e, ih]
      exact ⟨fun q => ⟨q.1, fun j hj hb => q.2 j (by omega) hb⟩, fun q => ⟨q.1, fun j hj hb => q.2 j (by omega) hb⟩⟩
    · rw [if_neg e, Int.le_min, Int.le_min, ih]
      refine ⟨fun q => ⟨q.1.1, fun j hj hb => ?_⟩, fun q => ⟨⟨q.1, fun j hj hb => q.2 j (by omega) hb⟩, q.2 i (by omega) e⟩⟩
      by_cases ej : j = i
      · subst ej; exact q.2
      · exact q.1.2 j (by omega) hb
theorem mnF_le (c : Int) (f : Nat → Int) (x : Int) : ∀ i, x ≤ mnF c f i ↔ (x ≤ c ∧ ∀ j : Nat, j < i → x ≤ f j)
  | 0 => ⟨fun q => ⟨q, fun j hj => by omega⟩, fun q => q.1⟩
  | i + 1 => by
    have ih := mnF_le c f x i
    rw [mnF, Int.le_min, ih]
    refine ⟨fun q => ⟨q.1.1, fun j hj => ?_⟩, fun q => ⟨⟨q.1, fun j hj => q.2 j (by omega)⟩, q.2 i (by omega)⟩⟩
    by_cases ej : j = i
    · subst ej; exact q.2
    · exact q.1.2 j (by omega)
theorem le_ext {a b : Int} (h : ∀ x, x ≤ a ↔ x ≤ b) : a = b := Int.le_antisymm ((h a).mp (Int.le_refl a)) ((h b).mpr (Int.le_refl b))
theorem leB_bd {h : Nat → Int} (hw : WF h) : 0 ≤ leB h ∧ leB h ≤ 1000000 ∧ (1 ≤ h 1 → leB h ≤ 99) := by
  refine ⟨?_, ?_, fun h1 => ?_⟩
  · refine (mnF_le _ _ _ _).mpr ⟨by omega, fun j hj => ?_⟩
    have := hw.2.2.1 j (by have := hw.1; omega)
    show 0 ≤ h (24 + 7 * j)
    omega
  · exact ((mnF_le _ _ _ _).mp (Int.le_refl (leB h))).1
  · have h2 := ((mnF_le _ _ _ _).mp (Int.le_refl (leB h))).2 0 (by omega)
    have := hw.2.2.1 0 (by omega)
    have h3 : leB h ≤ h 24 := h2
    simp only [Nat.mul_zero, Nat.add_zero] at this
    omega
theorem okK_sp {h : Nat → Int} {k : Nat} (hk : okK h k = true) (hl : k < 6 * (h 1).toNat) : spOk h (some (k / 6, k % 6)) := by
  unfold okK canS at hk
  simp only [Bool.and_eq_true, decide_eq_true_eq] at hk
  exact ⟨by omega, hk.1, hk.2.2.1⟩
theorem goF_1 (h : Nat → Int) (sp : Sp) : goF h sp 1 = h 1 := goF_lo h sp (by omega) (by omega) (by omega) (by omega)
theorem goF_5' (h : Nat → Int) (sp : Sp) : goF h sp 5 = h 5 + 1 := by unfold goF; rw [if_pos rfl]
theorem goF_le {h : Nat → Int} {sp : Sp} (hw : WF h) (ho : spOk h sp) {j : Nat} (hj : (j : Int) < h 1) : goF h sp (24 + 7 * j) ≤ h (25 + 7 * j) ∧ goF h sp (24 + 7 * j) ≤ h (24 + 7 * j) + h (26 + 7 * j) := by
  have hq := hw.2.2.1 j hj
  rw [goF_0 h sp hj]
  split
  · rename_i hc
    have hs := (spM_ok hw ho).2.2.2.2.2
    have hs5 := (spM_ok hw ho).2.2.2.2.1
    have h6 := hs (by omega)
    have h7 := hw.2.1 (spT sp).toNat (by have := (spM_ok hw ho); omega)
    omega
  · omega
theorem lr_go {h : Nat → Int} {sp : Sp} (hw : WF h) (ho : spOk h sp) (d : Int) : lrS (goF h sp) (-1) d (h 1).toNat ≤ lrS h (-1) (d + 1) (h 1).toNat := by
  have q := (lrS_le (goF h sp) (-1) d _ (h 1).toNat).mp (Int.le_refl _)
  refine (lrS_le _ _ _ _ _).mpr ⟨q.1, fun j hj hb => ?_⟩
  have b := hw.1.2.2.1
  obtain ⟨q1, q2⟩ := q.2 j hj hb
  obtain ⟨g1, g2⟩ := goF_le hw ho (j := j) (by omega)
  have w1 := goF_w h sp (m := j) (w := 1) (by omega) (by omega) (by omega) (by omega)
  have w2 := goF_w h sp (m := j) (w := 2) (by omega) (by omega) (by omega) (by omega)
  simp only [Nat.reduceAdd] at w1 w2
  rw [w1] at q1
  rw [w2] at q2
  refine ⟨q1, ?_⟩
  rw [Int.mul_add, Int.mul_one]
  omega
theorem seaL_id {f : Nat → Acc → Acc} {a : Acc} : ∀ {c k : Nat}, (∀ j, k ≤ j → j < k + c → f j a = a) → seaL f c k a = a
  | 0, k, _ => rfl
  | c + 1, k, h => by
    rw [seaL, h k (by omega) (by omega)]
    exact seaL_id (fun j h1 h2 => h j (by omega) (by omega))
theorem sea_cut : ∀ (d : Nat) {h : Nat → Int} {i : Nat} {w : Nat → Int} {a : Acc}, WF h → h 5 + d ≤ 20000 → (d = 0 → 1 ≤ h 1) → lrS h (-1) d (h 1).toNat ≤ a.1 → sea d h i w a = a
  | 0, h, i, w, a, hw, h5, h1, hl => by
    rw [sea, if_neg]
    have e : leB h ≤ lrS h (-1) ((0 : Nat) : Int) (h 1).toNat := by
      have q := (mnF_le 1000000 (fun m => h (24 + 7 * m)) _ (h 1).toNat).mp (Int.le_refl (leB h))
      refine (lrS_le _ _ _ _ _).mpr ⟨(leB_bd hw).2.2 (h1 rfl), fun j hj hb => ?_⟩
      have := q.2 j hj
      have hq := hw.2.2.1 j (by have := hw.1.2.2.1; omega)
      have this : leB h ≤ h (24 + 7 * j) := this
      refine ⟨by omega, ?_⟩
      show leB h ≤ h (24 + 7 * j) + h (26 + 7 * j) * 0
      rw [Int.mul_zero]
      omega
    omega
  | d + 1, h, i, w, a, hw, h5, h1, hl => by
    rw [sea_s]
    refine seaL_id (fun k _ hk => ?_)
    unfold seaK
    by_cases ho : okK h k = true
    · rw [if_pos ho]
      have sp := okK_sp ho (by omega)
      refine sea_cut d (goF_WF hw sp (by omega)) (by rw [goF_5']; omega) (fun _ => by rw [goF_1]; omega) ?_
      rw [goF_1]
      have := lr_go hw sp (d : Int)
      have e : ((d + 1 : Nat) : Int) = (d : Int) + 1 := by omega
      rw [e] at hl
      omega
    · rw [if_neg ho]
theorem leaf_eq {h : Nat → Int} {m t : Nat} (hw : WF h) (ho : spOk h (some (m, t))) : min (lrS h (m : Int) 1 (h 1).toNat) (h (24 + 7 * m) - h (12 + 2 * t)) = leB (goF h (some (m, t))) := by
  have b := hw.1.2.2.1
  have hm : (m : Int) < h 1 := ho.1
  have g0 : goF h (some (m, t)) (24 + 7 * m) = h (24 + 7 * m) - h (12 + 2 * t) := by
    rw [goF_0 h _ hm, if_pos (show spM (some (m, t)) = (m : Int) from rfl)]
    show _ - h (12 + 2 * (t : Int).toNat) = _
    rw [Int.toNat_natCast]
  have g1 := goF_le hw ho hm
  have hq := hw.2.2.1 m hm
  refine le_ext (fun x => ?_)
  unfold leB
  rw [Int.le_min, lrS_le, mnF_le, goF_1]
  constructor
  · rintro ⟨⟨h99, ha⟩, hb⟩
    refine ⟨by omega, fun j hj => ?_⟩
    show x ≤ goF h (some (m, t)) (24 + 7 * j)
    by_cases e : j = m
    · subst e; rw [g0]; exact hb
    · obtain ⟨a1, a2⟩ := ha j hj (by omega)
      rw [goF_0 h _ (by omega), if_neg (by show ¬ (m : Int) = (j : Int); omega)]
      rw [Int.mul_one] at a2
      omega
  · rintro ⟨h6, ha⟩
    have am : x ≤ goF h (some (m, t)) (24 + 7 * m) := ha m (by omega)
    refine ⟨⟨by omega, fun j hj hb => ?_⟩, by rw [g0] at am; exact am⟩
    have aj : x ≤ goF h (some (m, t)) (24 + 7 * j) := ha j hj
    rw [goF_0 h _ (by omega), if_neg (by show ¬ (m : Int) = (j : Int); omega)] at aj
    rw [Int.mul_one]
    omega
theorem sea_bd : ∀ (d : Nat) {h : Nat → Int} {i : Nat} {w : Nat → Int} {a : Acc}, WF h → h 5 + d ≤ 20000 → (d = 0 → 1 ≤ h 1) → -1 ≤ a.1 → a.1 ≤ 99 → -1 ≤ (sea d h i w a).1 ∧ (sea d h i w a).1 ≤ 99 ∧ a.1 ≤ (sea d h i w a).1
  | 0, h, i, w, a, hw, h5, h1, a1, a2 => by
    have := (leB_bd hw).2.2 (h1 rfl)
    have := (leB_bd hw).1
    rw [sea]
    split
    · exact ⟨by show -1 ≤ leB h; omega, by show leB h ≤ 99; omega, by show a.1 ≤ leB h; omega⟩
    · omega
  | d + 1, h, i, w, a, hw, h5, h1, a1, a2 => by
    rw [sea_s]
    have key : ∀ c k a, -1 ≤ a.1 → a.1 ≤ 99 → k + c ≤ 6 * (h 1).toNat → -1 ≤ (seaL (seaK d h i w) c k a).1 ∧ (seaL (seaK d h i w) c k a).1 ≤ 99 ∧ a.1 ≤ (seaL (seaK d h i w) c k a).1 := by
      intro c
      induction c with
      | zero => intro k a a1 a2 _; exact ⟨a1, a2, Int.le_refl _⟩
      | succ c ih =>
        intro k a a1 a2 hk
        rw [seaL]
        have st : -1 ≤ (seaK d h i w k a).1 ∧ (seaK d h i w k a).1 ≤ 99 ∧ a.1 ≤ (seaK d h i w k a).1 := by
          unfold seaK
          by_cases ho : okK h k = true
          · rw [if_pos ho]
            have sp := okK_sp ho (by omega)
            exact sea_bd d (goF_WF hw sp (by omega)) (by rw [goF_5']; omega) (fun _ => by rw [goF_1]; omega) a1 a2
          · rw [if_neg ho]
            exact ⟨a1, a2, Int.le_refl _⟩
        have := ih (k + 1) _ st.1 st.2.1 (by omega)
        exact ⟨this.1, this.2.1, Int.le_trans st.2.2 this.2.2⟩
    exact key _ 0 a a1 a2 (by omega)
