theorem s_m_wrongHeard {CALL : CT} (hC : RuleAll CALL) {r : Nat} {σ : AM} {K : AV → AM → Prop} {M S : Nat → Int} {z y : Int} {h0 : Nat → Int} (ht : TmM σ M S) (hm : M0 σ h0) (hw : WF h0) (z1 : -2147483648 ≤ z) (z2 : z < 2147483648) (y1 : -2147483648 ≤ y) (y2 : y < 2147483648) (h : K (.inl (Int32.ofInt (if ¬ (0 ≤ y ∧ y ≤ 4) then 1 else hdS σ M (h0 0) z y.toNat))) σ) : CALL (r + 2) n_m_wrongHeard [.inr (.inr (46, 0)), .inl (Int32.ofInt z), .inl (Int32.ofInt y)] σ K := by
  refine r_m_wrongHeard hC (fun J hJ => ?_)
  refine hJ _ _ _ _ ?_
  conv => whnf
  have b := hw.1
  have bad : ¬ (0 ≤ z ∧ z ≤ 3) ∨ ¬ (0 ≤ y ∧ y ≤ 4) → J 19 [.inr (.inr (46, 0)), .inl (Int32.ofInt z), .inl (Int32.ofInt y), unset] [] σ := by
    intro hno
    refine hJ _ _ _ _ ?_
    conv => whnf
    have e : (if ¬ (0 ≤ y ∧ y ≤ 4) then 1 else hdS σ M (h0 0) z y.toNat) = 1 := by
      by_cases c : 0 ≤ y ∧ y ≤ 4
      · rw [if_neg (fun p => p c)]
        exact if_pos (by omega)
      · rw [if_pos c]
    rw [e] at h
    exact h
  refine s_m_isTray hC z1 z2 ?_
  conv => whnf
  refine ⟨fun c => ?_, fun c => ?_⟩ <;> (try simp (disch := omega) only [oi_le, oi_lt, oi_eq, oi_lt0, oi_le0, oi_0lt, oi_0le, oi_eq0, oi_eq1, bI_eq0, bI_ne0, bI_eq1, decide_eq_true_eq, decide_eq_false_iff_not, lc_lt, lc_gt, lc_eq, lc_ge, lc_le, ol_lt, ol_eq, ne_eq, Int.not_lt, Int.not_le, Bool.not_eq_true, Bool.not_eq_false, Decidable.not_not, not_true_eq_false, not_false_eq_true, Bool.true_eq_false, Bool.false_eq_true] at c) <;> (first | (exfalso; omega) | ((fail_if_success with_reducible refine hJ _ _ _ _ ?_); conv => whnf) | skip)
  · exact bad (Or.inl c)
  · rw [oi_l (by omega) (by omega)]
    refine s_m_isFrom hC (by omega) (by omega) (by omega) (by omega) (by omega) (by omega) ?_
    conv => whnf
    refine ⟨fun c2 => ?_, fun c2 => ?_⟩ <;> (try simp (disch := omega) only [oi_le, oi_lt, oi_eq, oi_lt0, oi_le0, oi_0lt, oi_0le, oi_eq0, oi_eq1, bI_eq0, bI_ne0, bI_eq1, decide_eq_true_eq, decide_eq_false_iff_not, lc_lt, lc_gt, lc_eq, lc_ge, lc_le, ol_lt, ol_eq, ne_eq, Int.not_lt, Int.not_le, Bool.not_eq_true, Bool.not_eq_false, Decidable.not_not, not_true_eq_false, not_false_eq_true, Bool.true_eq_false, Bool.false_eq_true] at c2) <;> (first | (exfalso; omega) | ((fail_if_success with_reducible refine hJ _ _ _ _ ?_); conv => whnf) | skip)
    · obtain ⟨t, rfl⟩ : ∃ t : Nat, z = (t : Int) := ⟨z.toNat, by omega⟩
      obtain ⟨n, rfl⟩ : ∃ n : Nat, y = (n : Int) := ⟨y.toNat, by omega⟩
      have e : (if ¬ (0 ≤ (n : Int) ∧ (n : Int) ≤ 4) then 1 else hdS σ M (h0 0) (t : Int) (n : Int).toNat) = if M t = -1 then 2 else if M t < n then 3 else if allT (tv σ t) (h0 0) n 0 then 0 else 5 := by
        rw [if_neg (fun p => p ⟨by omega, by omega⟩)]
        unfold hdS
        rw [if_neg (fun p => p c), Int.toNat_natCast, Int.toNat_natCast]
      rw [e] at h
      obtain ⟨tf1, tf2, tf3, tf4⟩ := ht t (by omega)
      refine hJ _ _ _ _ ?_
      conv => whnf
      refine ⟨(oi_in (by omega) (by omega)).mpr ⟨by omega, by omega⟩, ?_⟩
      conv => whnf
      rw [oi_nat (by omega) (by omega), Int.toNat_natCast, tf1]
      refine ⟨fun c3 => ?_, fun c3 => ?_⟩ <;> (try simp (disch := omega) only [oi_le, oi_lt, oi_eq, oi_lt0, oi_le0, oi_0lt, oi_0le, oi_eq0, oi_eq1, bI_eq0, bI_ne0, bI_eq1, decide_eq_true_eq, decide_eq_false_iff_not, lc_lt, lc_gt, lc_eq, lc_ge, lc_le, ol_lt, ol_eq, ne_eq, Int.not_lt, Int.not_le, Bool.not_eq_true, Bool.not_eq_false, Decidable.not_not, not_true_eq_false, not_false_eq_true, Bool.true_eq_false, Bool.false_eq_true] at c3) <;> (first | (exfalso; omega) | ((with_reducible refine hJ _ _ _ _ ?_); conv => whnf) | (conv => whnf))
      · rw [if_neg c3] at h
        refine ⟨(oi_in (by omega) (by omega)).mpr ⟨by omega, by omega⟩, ?_⟩
        conv => whnf
        rw [oi_nat (by omega) (by omega), Int.toNat_natCast, tf1]
        refine ⟨fun c4 => ?_, fun c4 => ?_⟩ <;> (try simp (disch := omega) only [oi_le, oi_lt, oi_eq, oi_lt0, oi_le0, oi_0lt, oi_0le, oi_eq0, oi_eq1, bI_eq0, bI_ne0, bI_eq1, decide_eq_true_eq, decide_eq_false_iff_not, lc_lt, lc_gt, lc_eq, lc_ge, lc_le, ol_lt, ol_eq, ne_eq, Int.not_lt, Int.not_le, Bool.not_eq_true, Bool.not_eq_false, Decidable.not_not, not_true_eq_false, not_false_eq_true, Bool.true_eq_false, Bool.false_eq_true] at c4) <;> (first | (exfalso; omega) | ((with_reducible refine hJ _ _ _ _ ?_); conv => whnf) | (conv => whnf))
        · rw [if_neg (by omega)] at h
          have loop : ∀ (d i : Nat), i + d = n → K (.inl (Int32.ofInt (if allT (tv σ t) (h0 0) d i then 0 else 5))) σ → J 47 [.inr (.inr (46, 0)), .inl (Int32.ofInt (t : Int)), .inl (Int32.ofInt (n : Int)), .inl (Int32.ofInt (i : Int))] [] σ := by
            intro d
            induction d with
            | zero =>
              intro i hi hk
              refine hJ _ _ _ _ ?_
              conv => whnf
              refine ⟨fun c5 => ?_, fun c5 => ?_⟩ <;> (try simp (disch := omega) only [oi_le, oi_lt, oi_eq, oi_lt0, oi_le0, oi_0lt, oi_0le, oi_eq0, oi_eq1, bI_eq0, bI_ne0, bI_eq1, decide_eq_true_eq, decide_eq_false_iff_not, lc_lt, lc_gt, lc_eq, lc_ge, lc_le, ol_lt, ol_eq, ne_eq, Int.not_lt, Int.not_le, Bool.not_eq_true, Bool.not_eq_false, Decidable.not_not, not_true_eq_false, not_false_eq_true, Bool.true_eq_false, Bool.false_eq_true] at c5) <;> (first | (exfalso; omega) | ((with_reducible refine hJ _ _ _ _ ?_); conv => whnf) | (conv => whnf))
              exact hk
            | succ d ih =>
              intro i hi hk
              have tb := tv_bd σ t i
              refine hJ _ _ _ _ ?_
              conv => whnf
              refine ⟨fun c5 => ?_, fun c5 => ?_⟩ <;> (try simp (disch := omega) only [oi_le, oi_lt, oi_eq, oi_lt0, oi_le0, oi_0lt, oi_0le, oi_eq0, oi_eq1, bI_eq0, bI_ne0, bI_eq1, decide_eq_true_eq, decide_eq_false_iff_not, lc_lt, lc_gt, lc_eq, lc_ge, lc_le, ol_lt, ol_eq, ne_eq, Int.not_lt, Int.not_le, Bool.not_eq_true, Bool.not_eq_false, Decidable.not_not, not_true_eq_false, not_false_eq_true, Bool.true_eq_false, Bool.false_eq_true] at c5) <;> (first | (exfalso; omega) | ((with_reducible refine hJ _ _ _ _ ?_); conv => whnf) | (conv => whnf))
              rw [oi_mul, oi_add]
              refine ⟨(oi_in (by omega) (by omega)).mpr ⟨by omega, by omega⟩, ?_⟩
              conv => whnf
              rw [oi_nat (by omega) (by omega), show (60 * (t : Int) + (i : Int)).toNat = 60 * t + i by omega, tv_ol]
              refine s_m_isTopic hC hm hw (by omega) (by omega) ?_
              conv => whnf
              refine ⟨fun c6 => ?_, fun c6 => ?_⟩ <;> (try simp (disch := omega) only [oi_le, oi_lt, oi_eq, oi_lt0, oi_le0, oi_0lt, oi_0le, oi_eq0, oi_eq1, bI_eq0, bI_ne0, bI_eq1, decide_eq_true_eq, decide_eq_false_iff_not, lc_lt, lc_gt, lc_eq, lc_ge, lc_le, ol_lt, ol_eq, ne_eq, Int.not_lt, Int.not_le, Bool.not_eq_true, Bool.not_eq_false, Decidable.not_not, not_true_eq_false, not_false_eq_true, Bool.true_eq_false, Bool.false_eq_true] at c6) <;> (first | (exfalso; omega) | ((with_reducible refine hJ _ _ _ _ ?_); conv => whnf) | (conv => whnf))
              · rw [oi_succ]
                refine ih (i + 1) (by omega) ?_
                rw [allT, decide_eq_true (by omega), Bool.true_and] at hk
                exact hk
              · rw [allT, decide_eq_false (by omega)] at hk
                exact hk
          exact loop n 0 (by omega) h
        · rw [if_pos (by omega)] at h
          exact h
      · rw [if_pos c3] at h
        exact h
    · exact bad (Or.inr (by omega))
/-- who said the one that is asked for, in some way -/
def inW (L : List (List Nat)) (i : Nat) (q : Int) (m : Nat) : Prop := (i : Int) ≤ q ∧ ∃ w, w ∈ L ∧ w[(q - i).toNat]? = some m
theorem inW_nil {i : Nat} {q : Int} {m : Nat} : ¬ inW [] i q m := fun ⟨_, w, h, _⟩ => absurd h List.not_mem_nil
theorem inW_app {L L' : List (List Nat)} {i : Nat} {q : Int} {m : Nat} : inW (L ++ L') i q m ↔ inW L i q m ∨ inW L' i q m := by
  constructor
  · rintro ⟨h1, w, h2, h3⟩
    rcases List.mem_append.mp h2 with h2 | h2
    · exact Or.inl ⟨h1, w, h2, h3⟩
    · exact Or.inr ⟨h1, w, h2, h3⟩
  · rintro (⟨h1, w, h2, h3⟩ | ⟨h1, w, h2, h3⟩)
    · exact ⟨h1, w, List.mem_append.mpr (Or.inl h2), h3⟩
    · exact ⟨h1, w, List.mem_append.mpr (Or.inr h2), h3⟩
theorem inW_map {L : List (List Nat)} {i k : Nat} {q : Int} {m : Nat} : inW (L.map (fun w => k :: w)) i q m ↔ ((i : Int) = q ∧ m = k ∧ L ≠ []) ∨ inW L (i + 1) q m := by
  constructor
  · rintro ⟨h1, w, h2, h3⟩
    obtain ⟨v, hv, rfl⟩ := List.mem_map.mp h2
    by_cases e : (i : Int) = q
    · rw [show (q - i).toNat = 0 by omega, List.getElem?_cons_zero] at h3
      exact Or.inl ⟨e, (Option.some.inj h3).symm, fun z => by rw [z] at hv; exact absurd hv List.not_mem_nil⟩
    · rw [show (q - i).toNat = (q - ((i + 1 : Nat) : Int)).toNat + 1 by omega, List.getElem?_cons_succ] at h3
      exact Or.inr ⟨by omega, v, hv, h3⟩
  · rintro (⟨h1, h2, h3⟩ | ⟨h1, w, h2, h3⟩)
    · obtain ⟨v, hv⟩ := List.exists_mem_of_ne_nil L h3
      refine ⟨by omega, k :: v, List.mem_map.mpr ⟨v, hv, rfl⟩, ?_⟩
      rw [show (q - i).toNat = 0 by omega, List.getElem?_cons_zero, h2]
    · refine ⟨by omega, k :: w, List.mem_map.mpr ⟨w, h2, rfl⟩, ?_⟩
      rw [show (q - i).toNat = (q - ((i + 1 : Nat) : Int)).toNat + 1 by omega, List.getElem?_cons_succ]
      exact h3
def SB (s0 s' : Nat) (L : List (List Nat)) (i : Nat) (q : Int) : Prop := s' < 128 ∧ ∀ m, s'.testBit m = true ↔ (s0.testBit m = true ∨ inW L i q m)
def WS (σ : AM) (n : Nat) (q : Int) (s : Nat → Nat) (s0 : Nat) : Prop := σ.1 11 0 3 = Int32.ofInt (n : Int) ∧ σ.1 11 0 5 = Int32.ofInt q ∧ σ.1 11 0 7 = Int32.ofInt (s0 : Int) ∧ ∀ l, l < n → σ.1 14 0 l = Int32.ofInt (s l : Int)
def whS (i t p j : Nat) : Prop := (22 ≤ t ∧ t ≤ 36 ∧ i < p ∧ p < 4) ∨ (t = 11 ∧ p = 0 ∧ j = 7)
theorem s_ways1 {CALL : CT} (hC : RuleAll CALL) {n r e i s0 : Nat} {q : Int} {s : Nat → Nat} {σ : AM} {K : AV → AM → Prop} {h0 : Nat → Int} (hn4 : n ≤ 4) (hin : i + (e + 1) = n) (q1 : -1 ≤ q) (q2 : q < 5) (hr : HRep σ i h0) (hw : WF h0) (h5 : h0 5 + (e + 1) ≤ 20000) (hs : ∀ l, i ≤ l → l < n → (s l : Int) < h0 0) (ha : WS σ n q s s0) (hs0 : s0 < 128)
    (rec : ∀ (m : Nat) (σ1 : AM) (s1 : Nat) (K' : AV → AM → Prop), 1 ≤ e → canS h0 m (s i) = true → (m : Int) < h0 1 → HRep σ1 (i + 1) (goF h0 (some (m, s i))) → WS σ1 n q s s1 → s1 < 128 → (∀ (σ' : AM) (s' : Nat), ChA (whS (i + 1)) (shL (i + 1)) σ1 σ' → WS σ' n q s s' → SB s1 s' (wl s e (goF h0 (some (m, s i))) (i + 1)) (i + 1) q → K' (.inl (Int32.ofInt ((wl s e (goF h0 (some (m, s i))) (i + 1)).length : Nat))) σ') → CALL (r + 3) n_Ahead_waysFrom [.inr (.inr (11, 0)), .inl (Int32.ofInt ((i + 1 : Nat) : Int))] σ1 K')
    (h : ∀ (σ' : AM) (s' : Nat), ChA (whS i) (shL i) σ σ' → WS σ' n q s s' → SB s0 s' (wl s (e + 1) h0 i) i q → K (.inl (Int32.ofInt ((wl s (e + 1) h0 i).length : Nat))) σ') : CALL (r + 4) n_Ahead_waysFrom [.inr (.inr (11, 0)), .inl (Int32.ofInt (i : Int))] σ K := by
  have b := hw.1
  refine r_Ahead_waysFrom hC (fun J hJ => ?_)
  obtain ⟨w3, w5, w7, w14⟩ := id ha
  refine hJ _ _ _ _ ?_
  conv => whnf
  rw [w3]
  refine ⟨fun c => ?_, fun c => ?_⟩ <;> (try simp (disch := omega) only [oi_le, oi_lt, oi_eq, oi_lt0, oi_le0, oi_0lt, oi_0le, oi_eq0, oi_eq1, bI_eq0, bI_ne0, bI_eq1, decide_eq_true_eq, decide_eq_false_iff_not, lc_lt, lc_gt, lc_eq, lc_ge, lc_le, ol_lt, ol_eq, ne_eq, Int.not_lt, Int.not_le, Bool.not_eq_true, Bool.not_eq_false, Decidable.not_not, not_true_eq_false, not_false_eq_true, Bool.true_eq_false, Bool.false_eq_true] at c) <;> (first | (exfalso; omega) | ((with_reducible refine hJ _ _ _ _ ?_); conv => whnf) | (conv => whnf))
  refine ⟨fun c2 => ?_, fun c2 => ?_⟩ <;> (try simp (disch := omega) only [oi_le, oi_lt, oi_eq, oi_lt0, oi_le0, oi_0lt, oi_0le, oi_eq0, oi_eq1, bI_eq0, bI_ne0, bI_eq1, decide_eq_true_eq, decide_eq_false_iff_not, lc_lt, lc_gt, lc_eq, lc_ge, lc_le, ol_lt, ol_eq, ne_eq, Int.not_lt, Int.not_le, Bool.not_eq_true, Bool.not_eq_false, Decidable.not_not, not_true_eq_false, not_false_eq_true, Bool.true_eq_false, Bool.false_eq_true] at c2) <;> (first | (exfalso; omega) | ((with_reducible refine hJ _ _ _ _ ?_); conv => whnf) | (conv => whnf))
  refine ⟨(oi_in (by omega) (by omega)).mpr ⟨by omega, by omega⟩, ?_⟩
  conv => whnf
  refine ⟨(oi_in (by omega) (by omega)).mpr ⟨by omega, by omega⟩, ?_⟩
  conv => whnf
  rw [oi_nat (by omega) (by omega), Int.toNat_natCast, Nat.zero_add, w14 i (by omega)]
  have hst := hs i (by omega) (by omega)
  have hrt : ∀ σt : AM, ChA (whS i) (shL i) σ σt → HRep σt i h0 := fun σt hc => hr.cha hc (fun t j _ _ => by unfold whS; omega)
  have loop : ∀ (c m : Nat) (σm : AM) (sm : Nat) (x6 : AV), m + c = (h0 1).toNat → ChA (whS i) (shL i) σ σm → WS σm n q s sm → SB s0 sm (wlM (wlF s e h0 i) m 0) i q → J 35 [.inr (.inr (11, 0)), .inl (Int32.ofInt (i : Int)), .inr (.inr (22, i)), .inl (Int32.ofInt (s i : Int)), .inl (Int32.ofInt ((wlM (wlF s e h0 i) m 0).length : Nat)), .inl (Int32.ofInt (m : Int)), x6] [] σm := by
    intro c
    induction c with
    | zero =>
      intro m σm sm x6 hm hc hws hsb
      have hr1 := hrt σm hc
      refine hJ _ _ _ _ ?_
      conv => whnf
      rw [hr1.2.1]
      refine ⟨fun c3 => ?_, fun c3 => ?_⟩ <;> (try simp (disch := omega) only [oi_le, oi_lt, oi_eq, oi_lt0, oi_le0, oi_0lt, oi_0le, oi_eq0, oi_eq1, bI_eq0, bI_ne0, bI_eq1, decide_eq_true_eq, decide_eq_false_iff_not, lc_lt, lc_gt, lc_eq, lc_ge, lc_le, ol_lt, ol_eq, ne_eq, Int.not_lt, Int.not_le, Bool.not_eq_true, Bool.not_eq_false, Decidable.not_not, not_true_eq_false, not_false_eq_true, Bool.true_eq_false, Bool.false_eq_true] at c3) <;> (first | (exfalso; omega) | ((with_reducible refine hJ _ _ _ _ ?_); conv => whnf) | (conv => whnf))
      have := h σm sm hc hws
      rw [wl_s, show (h0 1).toNat = m by omega] at this
      exact this hsb
    | succ c ih =>
      intro m σm sm x6 hm hc hws hsb
      have hr1 := hrt σm hc
      have nx : wlM (wlF s e h0 i) (m + 1) 0 = wlM (wlF s e h0 i) m 0 ++ (wlF s e h0 i m).map (fun w => m :: w) := by
        have := wlM_snoc (wlF s e h0 i) m 0
        rw [Nat.zero_add] at this
        exact this
      refine hJ _ _ _ _ ?_
      conv => whnf
      rw [hr1.2.1]
      refine ⟨fun c3 => ?_, fun c3 => ?_⟩ <;> (try simp (disch := omega) only [oi_le, oi_lt, oi_eq, oi_lt0, oi_le0, oi_0lt, oi_0le, oi_eq0, oi_eq1, bI_eq0, bI_ne0, bI_eq1, decide_eq_true_eq, decide_eq_false_iff_not, lc_lt, lc_gt, lc_eq, lc_ge, lc_le, ol_lt, ol_eq, ne_eq, Int.not_lt, Int.not_le, Bool.not_eq_true, Bool.not_eq_false, Decidable.not_not, not_true_eq_false, not_false_eq_true, Bool.true_eq_false, Bool.false_eq_true] at c3) <;> (first | (exfalso; omega) | ((with_reducible refine hJ _ _ _ _ ?_); conv => whnf) | (conv => whnf))
      refine s_canSay hC hr1 hw (by omega) hst ?_
      conv => whnf
      refine ⟨fun c4 => ?_, fun c4 => ?_⟩ <;> (try simp (disch := omega) only [oi_le, oi_lt, oi_eq, oi_lt0, oi_le0, oi_0lt, oi_0le, oi_eq0, oi_eq1, bI_eq0, bI_ne0, bI_eq1, decide_eq_true_eq, decide_eq_false_iff_not, lc_lt, lc_gt, lc_eq, lc_ge, lc_le, ol_lt, ol_eq, ne_eq, Int.not_lt, Int.not_le, Bool.not_eq_true, Bool.not_eq_false, Decidable.not_not, not_true_eq_false, not_false_eq_true, Bool.true_eq_false, Bool.false_eq_true] at c4) <;> (first | (exfalso; omega) | ((with_reducible refine hJ _ _ _ _ ?_); conv => whnf) | (conv => whnf))
      · have sp := canS_sp c4 (by omega) hst
        have eF : wlF s e h0 i m = wl s e (goF h0 (some (m, s i))) (i + 1) := by unfold wlF; rw [if_pos c4]
        rw [eF] at nx
        have len := wl_len s e (goF h0 (some (m, s i))) (i + 1) (by rw [goF_1]; omega)
        have len2 : 7 ^ e ≤ 7 ^ 3 := Nat.pow_le_pow_right (by omega) (by omega)
        have at90 : ∀ (σ1 : AM) (s1 : Nat), ChA (whS i) (shL i) σ σ1 → WS σ1 n q s s1 → SB sm s1 (wl s e (goF h0 (some (m, s i))) (i + 1)) (i + 1) q → J 90 [.inr (.inr (11, 0)), .inl (Int32.ofInt (i : Int)), .inr (.inr (22, i)), .inl (Int32.ofInt (s i : Int)), .inl (Int32.ofInt ((wlM (wlF s e h0 i) m 0).length : Nat)), .inl (Int32.ofInt (m : Int)), .inl (Int32.ofInt ((wl s e (goF h0 (some (m, s i))) (i + 1)).length : Nat))] [] σ1 := by
          intro σ1 s1 hc1 hw1 hb1
          have at116 : ∀ (σ2 : AM) (s2 : Nat), ChA (whS i) (shL i) σ σ2 → WS σ2 n q s s2 → SB s0 s2 (wlM (wlF s e h0 i) (m + 1) 0) i q → J 116 [.inr (.inr (11, 0)), .inl (Int32.ofInt (i : Int)), .inr (.inr (22, i)), .inl (Int32.ofInt (s i : Int)), .inl (Int32.ofInt ((wlM (wlF s e h0 i) m 0).length : Nat)), .inl (Int32.ofInt (m : Int)), .inl (Int32.ofInt ((wl s e (goF h0 (some (m, s i))) (i + 1)).length : Nat))] [] σ2 := by
            intro σ2 s2 hc2 hw2 hb2
            have fin := ih (m + 1) σ2 s2 (.inl (Int32.ofInt ((wl s e (goF h0 (some (m, s i))) (i + 1)).length : Nat))) (by omega) hc2 hw2 hb2
            rw [nx, List.length_append, List.length_map] at fin
            refine hJ _ _ _ _ ?_
            conv => whnf
            refine hJ _ _ _ _ ?_
            conv => whnf
            rw [oi_succ, oi_add]
            exact fin
          have same : ¬ ((i : Int) = q ∧ wl s e (goF h0 (some (m, s i))) (i + 1) ≠ []) → SB s0 s1 (wlM (wlF s e h0 i) (m + 1) 0) i q := by
            intro hno
            refine ⟨hb1.1, fun x => ?_⟩
            rw [nx, inW_app, inW_map, hb1.2 x, hsb.2 x]
            constructor
            · rintro ((z | z) | z)
              · exact Or.inl z
              · exact Or.inr (Or.inl z)
              · exact Or.inr (Or.inr (Or.inr z))
            · rintro (z | z | z | z)
              · exact Or.inl (Or.inl z)
              · exact Or.inl (Or.inr z)
              · exact absurd ⟨z.1, z.2.2⟩ hno
              · exact Or.inr z
          refine hJ _ _ _ _ ?_
          conv => whnf
          refine ⟨fun c6 => ?_, fun c6 => ?_⟩ <;> (try simp (disch := omega) only [oi_le, oi_lt, oi_eq, oi_lt0, oi_le0, oi_0lt, oi_0le, oi_eq0, oi_eq1, bI_eq0, bI_ne0, bI_eq1, decide_eq_true_eq, decide_eq_false_iff_not, lc_lt, lc_gt, lc_eq, lc_ge, lc_le, ol_lt, ol_eq, ne_eq, Int.not_lt, Int.not_le, Bool.not_eq_true, Bool.not_eq_false, Decidable.not_not, not_true_eq_false, not_false_eq_true, Bool.true_eq_false, Bool.false_eq_true] at c6) <;> (first | (exfalso; omega) | ((fail_if_success with_reducible refine hJ _ _ _ _ ?_); conv => whnf) | skip)
          · refine at116 σ1 s1 hc1 hw1 (same (fun z => z.2 ?_))
            exact List.length_eq_zero_iff.mp (by omega)
          · rw [hw1.2.1]
            refine ⟨fun c7 => ?_, fun c7 => ?_⟩ <;> (try simp (disch := omega) only [oi_le, oi_lt, oi_eq, oi_lt0, oi_le0, oi_0lt, oi_0le, oi_eq0, oi_eq1, bI_eq0, bI_ne0, bI_eq1, decide_eq_true_eq, decide_eq_false_iff_not, lc_lt, lc_gt, lc_eq, lc_ge, lc_le, ol_lt, ol_eq, ne_eq, Int.not_lt, Int.not_le, Bool.not_eq_true, Bool.not_eq_false, Decidable.not_not, not_true_eq_false, not_false_eq_true, Bool.true_eq_false, Bool.false_eq_true] at c7) <;> (first | (exfalso; omega) | ((fail_if_success with_reducible refine hJ _ _ _ _ ?_); conv => whnf) | skip)
            · exact at116 σ1 s1 hc1 hw1 (same (fun z => c7 z.1))
            · rw [hw1.2.2.1, oi_shl (by omega), oi_or]
              refine at116 _ (s1 ||| 2 ^ m) (hc1.tr (ChA.wI (Or.inr ⟨rfl, rfl, rfl⟩))) ⟨by rw [wI1, if_neg (by omega), hw1.1], by rw [wI1, if_neg (by omega), hw1.2.1], wI_16, fun l hl => by rw [wI1, if_neg (by omega), hw1.2.2.2 l hl]⟩ ⟨Nat.or_lt_two_pow (n := 7) hb1.1 (Nat.pow_lt_pow_right (by omega) (by omega)), fun x => ?_⟩
              have hne : wl s e (goF h0 (some (m, s i))) (i + 1) ≠ [] := fun z => by rw [z] at c6; simp at c6
              rw [nx, inW_app, inW_map, Nat.testBit_or, Bool.or_eq_true, hb1.2 x, hsb.2 x, Nat.testBit_two_pow, decide_eq_true_eq]
              constructor
              · rintro (((z | z) | z) | z)
                · exact Or.inl z
                · exact Or.inr (Or.inl z)
                · exact Or.inr (Or.inr (Or.inr z))
                · exact Or.inr (Or.inr (Or.inl ⟨c7, z.symm, hne⟩))
              · rintro (z | z | z | z)
                · exact Or.inl (Or.inl (Or.inl z))
                · exact Or.inl (Or.inl (Or.inr z))
                · exact Or.inr z.2.1.symm
                · exact Or.inl (Or.inr z)
        rw [oi_succ, hws.1]
        refine ⟨fun c5 => ?_, fun c5 => ?_⟩ <;> (try simp (disch := omega) only [oi_le, oi_lt, oi_eq, oi_lt0, oi_le0, oi_0lt, oi_0le, oi_eq0, oi_eq1, bI_eq0, bI_ne0, bI_eq1, decide_eq_true_eq, decide_eq_false_iff_not, lc_lt, lc_gt, lc_eq, lc_ge, lc_le, ol_lt, ol_eq, ne_eq, Int.not_lt, Int.not_le, Bool.not_eq_true, Bool.not_eq_false, Decidable.not_not, not_true_eq_false, not_false_eq_true, Bool.true_eq_false, Bool.false_eq_true] at c5) <;> (first | (exfalso; omega) | ((fail_if_success with_reducible refine hJ _ _ _ _ ?_); conv => whnf) | skip)
        · have e0 : e = 0 := by omega
          subst e0
          refine at90 σm sm hc hws ⟨hsb.1, fun x => ⟨fun z => Or.inl z, fun z => ?_⟩⟩
          rcases z with z | ⟨z1, w, z2, z3⟩
          · exact z
          · rw [wl, List.mem_singleton] at z2
            subst z2
            simp at z3
        · refine s_next hC (by omega) hr1 hw sp (by omega) (fun σ2 g1 g2 g3 => ?_)
          conv => whnf
          rw [oi_succ]
          have hw2 : WS σ2 n q s sm := by
            have f11 := (g2 11 0 (by unfold HS; omega)).1
            have f14 := (g2 14 0 (by unfold HS; omega)).1
            unfold WS
            rw [f11, f14]
            exact hws
          have hc2 : ChA (whS i) (shL i) σ σ2 := hc.tr ⟨fun t p j z => congrFun (g2 t p (fun y => z (Or.inl (by unfold HS at y; omega)))).1 j, fun t p j z => congrFun (g2 t p (fun y => z (by unfold HS at y; unfold shL; omega))).2.1 j, g3⟩
          refine rec m σ2 sm _ (by omega) c4 (by omega) g1 hw2 hsb.1 (fun σ3 s3 g4 g5 g6 => ?_)
          conv => whnf
          exact at90 σ3 s3 (hc2.tr (g4.mo (fun t p j z => by unfold whS at z ⊢; omega) (fun t p j z => by unfold shL at z ⊢; omega))) g5 g6
      · refine hJ _ _ _ _ ?_
        conv => whnf
        rw [oi_succ]
        have eF : wlF s e h0 i m = [] := by unfold wlF; rw [if_neg (by rw [c4]; decide)]
        rw [eF, List.map_nil, List.append_nil] at nx
        have := ih (m + 1) σm sm x6 (by omega) hc hws (by rw [nx]; exact hsb)
        rw [nx] at this
        exact this
  exact loop (h0 1).toNat 0 σ s0 _ (by omega) ChA.rf ha ⟨hs0, fun x => ⟨fun z => Or.inl z, fun z => z.elim id (fun y => absurd y inW_nil)⟩⟩
theorem s_waysFrom {CALL : CT} (hC : RuleAll CALL) {n : Nat} (hn4 : n ≤ 4) {q : Int} (q1 : -1 ≤ q) (q2 : q < 5) {s : Nat → Nat} : ∀ (e r : Nat) {σ : AM} {K : AV → AM → Prop} {i s0 : Nat} {h0 : Nat → Int}, i + (e + 1) = n → HRep σ i h0 → WF h0 → h0 5 + (e + 1) ≤ 20000 → (∀ l, i ≤ l → l < n → (s l : Int) < h0 0) → WS σ n q s s0 → s0 < 128 → (∀ (σ' : AM) (s' : Nat), ChA (whS i) (shL i) σ σ' → WS σ' n q s s' → SB s0 s' (wl s (e + 1) h0 i) i q → K (.inl (Int32.ofInt ((wl s (e + 1) h0 i).length : Nat))) σ') → CALL (r + e + 4) n_Ahead_waysFrom [.inr (.inr (11, 0)), .inl (Int32.ofInt (i : Int))] σ K := by
  intro e
  induction e with
  | zero =>
    intro r σ K i s0 h0 hin hr hw h5 hs ha hs0 h
    exact s_ways1 hC (e := 0) (r := r) hn4 hin q1 q2 hr hw h5 hs ha hs0 (fun m σ1 s1 K' z => by omega) h
  | succ e IH =>
    intro r σ K i s0 h0 hin hr hw h5 hs ha hs0 h
    refine s_ways1 hC (e := e + 1) (r := r + (e + 1)) hn4 hin q1 q2 hr hw h5 hs ha hs0 (fun m σ1 s1 K' _ ok hm g1 g2 g3 g4 => ?_) h
    have sp := canS_sp ok hm (hs i (by omega) (by omega))
    exact IH r (by omega) g1 (goF_WF hw sp (by omega)) (by rw [goF_5']; omega) (fun l h1 h2 => by rw [goF_0']; exact hs l (by omega) h2) g2 g3 g4
