/-! what was heard: all ways -/
def wlM (f : Nat → List (List Nat)) : Nat → Nat → List (List Nat)
  | 0, _ => []
  | c + 1, m => (f m).map (fun w => m :: w) ++ wlM f c (m + 1)
def wl (s : Nat → Nat) : Nat → (Nat → Int) → Nat → List (List Nat)
  | 0, _, _ => [[]]
  | d + 1, h, i => wlM (fun m => if canS h m (s i) then wl s d (goF h (some (m, s i))) (i + 1) else []) (h 1).toNat 0
def wlF (s : Nat → Nat) (d : Nat) (h : Nat → Int) (i m : Nat) : List (List Nat) := if canS h m (s i) then wl s d (goF h (some (m, s i))) (i + 1) else []
theorem wl_s (s : Nat → Nat) (d : Nat) (h : Nat → Int) (i : Nat) : wl s (d + 1) h i = wlM (wlF s d h i) (h 1).toNat 0 := rfl
theorem wlM_snoc (f : Nat → List (List Nat)) : ∀ (c m : Nat), wlM f (c + 1) m = wlM f c m ++ (f (m + c)).map (fun w => (m + c) :: w)
  | 0, m => by simp [wlM]
  | c + 1, m => by
    rw [wlM, wlM_snoc f c (m + 1), wlM, List.append_assoc, show m + 1 + c = m + (c + 1) by omega]
theorem canS_sp {h : Nat → Int} {m t : Nat} (hc : canS h m t = true) (hm : (m : Int) < h 1) (ht : (t : Int) < h 0) : spOk h (some (m, t)) := by
  unfold canS at hc
  simp only [Bool.and_eq_true, decide_eq_true_eq] at hc
  exact ⟨hm, ht, hc.2.1⟩
theorem goF_0' (h : Nat → Int) (sp : Sp) : goF h sp 0 = h 0 := goF_lo h sp (by omega) (by omega) (by omega) (by omega)
theorem wl_len (s : Nat → Nat) : ∀ (d : Nat) (h : Nat → Int) (i : Nat), h 1 ≤ 7 → (wl s d h i).length ≤ 7 ^ d
  | 0, h, i, _ => by simp [wl]
  | d + 1, h, i, h7 => by
    have key : ∀ c m, (wlM (wlF s d h i) c m).length ≤ c * 7 ^ d := by
      intro c
      induction c with
      | zero => intro m; simp [wlM]
      | succ c ih =>
        intro m
        rw [wlM, List.length_append, List.length_map]
        have h1 : (wlF s d h i m).length ≤ 7 ^ d := by
          unfold wlF
          by_cases hc : canS h m (s i) = true
          · rw [if_pos hc]; exact wl_len s d _ _ (by rw [goF_1]; exact h7)
          · rw [if_neg hc]; exact Nat.zero_le _
        have h2 := ih (m + 1)
        rw [Nat.add_mul, Nat.one_mul]
        omega
    rw [wl_s]
    refine Nat.le_trans (key _ 0) ?_
    rw [Nat.pow_succ, Nat.mul_comm]
    exact Nat.mul_le_mul_left _ (by omega)
theorem wl_el (s : Nat → Nat) : ∀ (d : Nat) (h : Nat → Int) (i : Nat), h 1 ≤ 7 → ∀ w ∈ wl s d h i, w.length = d ∧ ∀ x ∈ w, x < 7
  | 0, h, i, _, w, hw => by
    rw [wl, List.mem_singleton] at hw
    subst hw
    exact ⟨rfl, fun x hx => absurd hx List.not_mem_nil⟩
  | d + 1, h, i, h7, w, hw => by
    have key : ∀ c m, m + c ≤ 7 → ∀ w ∈ wlM (wlF s d h i) c m, w.length = d + 1 ∧ ∀ x ∈ w, x < 7 := by
      intro c
      induction c with
      | zero => intro m _ w hw; exact absurd hw List.not_mem_nil
      | succ c ih =>
        intro m hm w hw
        rw [wlM, List.mem_append] at hw
        rcases hw with hw | hw
        · obtain ⟨v, hv, rfl⟩ := List.mem_map.mp hw
          unfold wlF at hv
          by_cases hc : canS h m (s i) = true
          · rw [if_pos hc] at hv
            have := wl_el s d _ _ (by rw [goF_1]; exact h7) v hv
            refine ⟨by rw [List.length_cons, this.1], fun x hx => ?_⟩
            rcases List.mem_cons.mp hx with hx | hx
            · omega
            · exact this.2 x hx
          · rw [if_neg hc] at hv; exact absurd hv List.not_mem_nil
        · exact ih (m + 1) (by omega) w hw
    rw [wl_s] at hw
    exact key _ 0 (by omega) w hw
/-- in order, or not -/
def allT (v : Nat → Int) (c : Int) : Nat → Nat → Bool
  | 0, _ => true
  | k + 1, i => decide (0 ≤ v i ∧ v i < c) && allT v c k (i + 1)
theorem allT_ok {v : Nat → Int} {c : Int} : ∀ {k i : Nat}, allT v c k i = true → ∀ j, i ≤ j → j < i + k → 0 ≤ v j ∧ v j < c
  | 0, i, _, j, h1, h2 => by omega
  | k + 1, i, h, j, h1, h2 => by
    rw [allT, Bool.and_eq_true, decide_eq_true_eq] at h
    by_cases e : j = i
    · rw [e]; exact h.1
    · exact allT_ok h.2 j (by omega) (by omega)
def tv (σ : AM) (t l : Nat) : Int := (σ.2.1 51 0 (60 * t + l)).toInt
theorem tv_bd (σ : AM) (t l : Nat) : -9223372036854775808 ≤ tv σ t l ∧ tv σ t l < 9223372036854775808 := ⟨Int64.le_toInt _, Int64.toInt_lt _⟩
theorem tv_ol (σ : AM) (t l : Nat) : σ.2.1 51 0 (60 * t + l) = Int64.ofInt (tv σ t l) := (Int64.ofInt_toInt _).symm
def hdS (σ : AM) (M : Nat → Int) (c z : Int) (n : Nat) : Int := if ¬ (0 ≤ z ∧ z ≤ 3) then 1 else if M z.toNat = -1 then 2 else if M z.toNat < n then 3 else if allT (tv σ z.toNat) c n 0 then 0 else 5
theorem s_heardStatus {CALL : CT} (hC : RuleAll CALL) {r : Nat} {σ : AM} {K : AV → AM → Prop} {M S : Nat → Int} {q n : Nat} {z : Int} {h0 : Nat → Int} (ht : TrM σ M S) (hn : NH σ q h0) (z1 : -2147483648 ≤ z) (z2 : z < 2147483648) (n4 : n ≤ 4) (h : K (.inl (Int32.ofInt (hdS σ M (h0 0) z n))) σ) : CALL (r + 3) n_x_heardStatus [.inr (.inr (1, 0)), .inl (Int32.ofInt z), .inl (Int32.ofInt n)] σ K := by
  refine r_x_heardStatus hC (fun J hJ => ?_)
  refine hJ _ _ _ _ ?_
  conv => whnf
  obtain ⟨n45, hnn, hr, hm, ⟨hw, hw67⟩, h59⟩ := id hn
  have b := hw.1
  refine s_isTray hC z1 z2 ?_
  conv => whnf
  refine ⟨fun c => ?_, fun c => ?_⟩ <;> (try simp (disch := omega) only [oi_le, oi_lt, oi_eq, oi_lt0, oi_le0, oi_0lt, oi_0le, oi_eq0, oi_eq1, bI_eq0, bI_ne0, bI_eq1, decide_eq_true_eq, decide_eq_false_iff_not, lc_lt, lc_gt, lc_eq, lc_ge, lc_le, ol_lt, ol_eq, ne_eq, Int.not_lt, Int.not_le, Bool.not_eq_true, Bool.not_eq_false, Decidable.not_not, not_true_eq_false, not_false_eq_true, Bool.true_eq_false, Bool.false_eq_true] at c) <;> (first | (exfalso; omega) | ((with_reducible refine hJ _ _ _ _ ?_); conv => whnf) | (conv => whnf))
  · obtain ⟨t, rfl⟩ : ∃ t : Nat, z = (t : Int) := ⟨z.toNat, by omega⟩
    have e : hdS σ M (h0 0) (t : Int) n = if M t = -1 then 2 else if M t < n then 3 else if allT (tv σ t) (h0 0) n 0 then 0 else 5 := by
      unfold hdS
      rw [if_neg (fun p => p c), Int.toNat_natCast]
    rw [e] at h
    refine ⟨(oi_in (by omega) (by omega)).mpr ⟨by omega, by omega⟩, ?_⟩
    conv => whnf
    rw [oi_nat (by omega) (by omega), Int.toNat_natCast, Nat.zero_add]
    by_cases mz : M t = -1
    · rcases (ht t (by omega)).2 with ⟨g1, g2⟩ | ⟨g1, g2⟩
      · rw [g2]
        refine ⟨fun c2 => ?_, fun c2 => ?_⟩ <;> (try simp (disch := omega) only [oi_le, oi_lt, oi_eq, oi_lt0, oi_le0, oi_0lt, oi_0le, oi_eq0, oi_eq1, bI_eq0, bI_ne0, bI_eq1, decide_eq_true_eq, decide_eq_false_iff_not, lc_lt, lc_gt, lc_eq, lc_ge, lc_le, ol_lt, ol_eq, ne_eq, Int.not_lt, Int.not_le, Bool.not_eq_true, Bool.not_eq_false, Decidable.not_not, not_true_eq_false, not_false_eq_true, Bool.true_eq_false, Bool.false_eq_true] at c2) <;> (first | (exfalso; omega) | ((with_reducible refine hJ _ _ _ _ ?_); conv => whnf) | (conv => whnf))
        rw [if_pos mz] at h
        exact h
      · omega
    · obtain ⟨p1, p2, p3, p4, p5, p6, p7, p8⟩ := ht.is (t := t) (by omega) mz
      rw [if_neg mz] at h
      rw [p5]
      refine ⟨fun c2 => ?_, fun c2 => ?_⟩ <;> (try simp (disch := omega) only [oi_le, oi_lt, oi_eq, oi_lt0, oi_le0, oi_0lt, oi_0le, oi_eq0, oi_eq1, bI_eq0, bI_ne0, bI_eq1, decide_eq_true_eq, decide_eq_false_iff_not, lc_lt, lc_gt, lc_eq, lc_ge, lc_le, ol_lt, ol_eq, ne_eq, Int.not_lt, Int.not_le, Bool.not_eq_true, Bool.not_eq_false, Decidable.not_not, not_true_eq_false, not_false_eq_true, Bool.true_eq_false, Bool.false_eq_true] at c2) <;> (first | (exfalso; omega) | ((with_reducible refine hJ _ _ _ _ ?_); conv => whnf) | (conv => whnf))
      refine ⟨(oi_in (by omega) (by omega)).mpr ⟨by omega, by omega⟩, ?_⟩
      conv => whnf
      rw [oi_nat (by omega) (by omega), Int.toNat_natCast, Nat.zero_add]
      refine s_holds hC p8 p1 p2 (by omega) (by omega) (by omega) (by omega) ?_
      conv => whnf
      refine ⟨fun c3 => ?_, fun c3 => ?_⟩ <;> (try simp (disch := omega) only [oi_le, oi_lt, oi_eq, oi_lt0, oi_le0, oi_0lt, oi_0le, oi_eq0, oi_eq1, bI_eq0, bI_ne0, bI_eq1, decide_eq_true_eq, decide_eq_false_iff_not, lc_lt, lc_gt, lc_eq, lc_ge, lc_le, ol_lt, ol_eq, ne_eq, Int.not_lt, Int.not_le, Bool.not_eq_true, Bool.not_eq_false, Decidable.not_not, not_true_eq_false, not_false_eq_true, Bool.true_eq_false, Bool.false_eq_true] at c3) <;> (first | (exfalso; omega) | ((with_reducible refine hJ _ _ _ _ ?_); conv => whnf) | (conv => whnf))
      · rw [if_neg (by omega)] at h
        have loop : ∀ (d i : Nat) (x4 x5 : AV), i + d = n → K (.inl (Int32.ofInt (if allT (tv σ t) (h0 0) d i then 0 else 5))) σ → J 42 [.inr (.inr (1, 0)), .inl (Int32.ofInt (t : Int)), .inl (Int32.ofInt (n : Int)), .inl (Int32.ofInt (i : Int)), x4, x5] [] σ := by
          intro d
          induction d with
          | zero =>
            intro i x4 x5 hi hk
            refine hJ _ _ _ _ ?_
            conv => whnf
            refine ⟨fun c4 => ?_, fun c4 => ?_⟩ <;> (try simp (disch := omega) only [oi_le, oi_lt, oi_eq, oi_lt0, oi_le0, oi_0lt, oi_0le, oi_eq0, oi_eq1, bI_eq0, bI_ne0, bI_eq1, decide_eq_true_eq, decide_eq_false_iff_not, lc_lt, lc_gt, lc_eq, lc_ge, lc_le, ol_lt, ol_eq, ne_eq, Int.not_lt, Int.not_le, Bool.not_eq_true, Bool.not_eq_false, Decidable.not_not, not_true_eq_false, not_false_eq_true, Bool.true_eq_false, Bool.false_eq_true] at c4) <;> (first | (exfalso; omega) | ((with_reducible refine hJ _ _ _ _ ?_); conv => whnf) | (conv => whnf))
            exact hk
          | succ d ih =>
            intro i x4 x5 hi hk
            have tb := tv_bd σ t i
            have bad : ¬ (0 ≤ tv σ t i ∧ tv σ t i < h0 0) → ∀ x4 x5 : AV, J 84 [.inr (.inr (1, 0)), .inl (Int32.ofInt (t : Int)), .inl (Int32.ofInt (n : Int)), .inl (Int32.ofInt (i : Int)), x4, x5] [] σ := by
              intro hno x4 x5
              refine hJ _ _ _ _ ?_
              conv => whnf
              rw [allT, decide_eq_false hno] at hk
              exact hk
            refine hJ _ _ _ _ ?_
            conv => whnf
            refine ⟨fun c4 => ?_, fun c4 => ?_⟩ <;> (try simp (disch := omega) only [oi_le, oi_lt, oi_eq, oi_lt0, oi_le0, oi_0lt, oi_0le, oi_eq0, oi_eq1, bI_eq0, bI_ne0, bI_eq1, decide_eq_true_eq, decide_eq_false_iff_not, lc_lt, lc_gt, lc_eq, lc_ge, lc_le, ol_lt, ol_eq, ne_eq, Int.not_lt, Int.not_le, Bool.not_eq_true, Bool.not_eq_false, Decidable.not_not, not_true_eq_false, not_false_eq_true, Bool.true_eq_false, Bool.false_eq_true] at c4) <;> (first | (exfalso; omega) | ((with_reducible refine hJ _ _ _ _ ?_); conv => whnf) | (conv => whnf))
            refine ⟨(oi_in (by omega) (by omega)).mpr ⟨by omega, by omega⟩, ?_⟩
            conv => whnf
            refine ⟨(oi_in (by omega) (by omega)).mpr ⟨by omega, by omega⟩, ?_⟩
            conv => whnf
            rw [oi_nat (by omega) (by omega), oi_nat (by omega) (by omega), Int.toNat_natCast, Int.toNat_natCast, Nat.zero_add, ht.old (t := t) (j := i) (by omega) (by omega), tv_ol]
            refine ⟨fun c5 => ?_, fun c5 => ?_⟩ <;> (try simp (disch := omega) only [oi_le, oi_lt, oi_eq, oi_lt0, oi_le0, oi_0lt, oi_0le, oi_eq0, oi_eq1, bI_eq0, bI_ne0, bI_eq1, decide_eq_true_eq, decide_eq_false_iff_not, lc_lt, lc_gt, lc_eq, lc_ge, lc_le, ol_lt, ol_eq, ne_eq, Int.not_lt, Int.not_le, Bool.not_eq_true, Bool.not_eq_false, Decidable.not_not, not_true_eq_false, not_false_eq_true, Bool.true_eq_false, Bool.false_eq_true] at c5) <;> (first | (exfalso; omega) | ((fail_if_success with_reducible refine hJ _ _ _ _ ?_); conv => whnf) | skip)
            · exact bad (by omega) _ _
            · rw [hnn]
              refine ⟨by omega, ?_⟩
              conv => whnf
              rw [hr.1, oi_l (by omega) (by omega)]
              refine ⟨fun c6 => ?_, fun c6 => ?_⟩ <;> (try simp (disch := omega) only [oi_le, oi_lt, oi_eq, oi_lt0, oi_le0, oi_0lt, oi_0le, oi_eq0, oi_eq1, bI_eq0, bI_ne0, bI_eq1, decide_eq_true_eq, decide_eq_false_iff_not, lc_lt, lc_gt, lc_eq, lc_ge, lc_le, ol_lt, ol_eq, ne_eq, Int.not_lt, Int.not_le, Bool.not_eq_true, Bool.not_eq_false, Decidable.not_not, not_true_eq_false, not_false_eq_true, Bool.true_eq_false, Bool.false_eq_true] at c6) <;> (first | (exfalso; omega) | ((fail_if_success with_reducible refine hJ _ _ _ _ ?_); conv => whnf) | skip)
              · refine hJ _ _ _ _ ?_
                conv => whnf
                rw [oi_succ]
                refine ih (i + 1) _ _ (by omega) ?_
                rw [allT, decide_eq_true (by omega), Bool.true_and] at hk
                exact hk
              · exact bad (by omega) _ _
        exact loop n 0 _ _ (by omega) h
      · rw [if_pos (by omega)] at h
        exact h
  · have e : hdS σ M (h0 0) z n = 1 := if_pos c
    rw [e] at h
    exact h
