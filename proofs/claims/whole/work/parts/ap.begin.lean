/-! how both begin to read -/
def bgS (σ : AM) (n : Nat) : AM := wI (wI (wI (wI (wI σ 3 0 10 (Int32.ofInt (n : Int))) 3 0 11 (Int32.ofInt 0)) 3 0 2 (Int32.ofInt 0)) 3 0 3 (Int32.ofInt 0)) 3 0 4 (Int32.ofInt (-1))
theorem c_begin {CALL : CT} (hC : RuleAll CALL) {r : Nat} {σ : AM} {K : AV → AM → Prop} {B : Nat → Int} {n : Nat} (hB : BOk B n) (hk : KeyR σ) (hb : ∀ j, j < n → σ.1 4 0 j = Int32.ofInt (B j)) (h : ∀ σ' : AM, AC σ' B n (tokF B n 0) → σ'.1 3 0 2 = Int32.ofInt 0 → σ'.1 3 0 3 = Int32.ofInt 0 → σ'.1 3 0 4 = Int32.ofInt (-1) → ChA (fun t i _ => t = 3 ∧ i = 0) tkL σ σ' → K unset σ') : CALL (r + 3) n_Tape_begin [.inr (.inr (3, 0)), .inl (Int32.ofInt (n : Int))] σ K := by
  refine r_Tape_begin hC (fun J hJ => ?_)
  refine hJ _ _ _ _ ?_
  conv => whnf
  have hs : (wI (wI (wI (wI (wI σ 3 0 10 (Int32.ofInt (n : Int))) 3 0 11 (Int32.ofInt 0)) 3 0 2 (Int32.ofInt 0)) 3 0 3 (Int32.ofInt 0)) 3 0 4 (Int32.ofInt (-1))) = bgS σ n := rfl
  rw [hs]
  have f0 : ChA (fun t i _ => t = 3 ∧ i = 0) tkL σ (bgS σ n) := ((((ChA.wI ⟨rfl, rfl⟩).tr (ChA.wI ⟨rfl, rfl⟩)).tr (ChA.wI ⟨rfl, rfl⟩)).tr (ChA.wI ⟨rfl, rfl⟩)).tr (ChA.wI ⟨rfl, rfl⟩)
  have r10 : (bgS σ n).1 3 0 10 = Int32.ofInt (n : Int) := by unfold bgS; rw [wI1, if_neg (by omega), wI1, if_neg (by omega), wI1, if_neg (by omega), wI1, if_neg (by omega), wI_16]
  have r11 : (bgS σ n).1 3 0 11 = Int32.ofInt ((0 : Nat) : Int) := by unfold bgS; rw [wI1, if_neg (by omega), wI1, if_neg (by omega), wI1, if_neg (by omega), wI_16]; rfl
  have r2 : (bgS σ n).1 3 0 2 = Int32.ofInt 0 := by unfold bgS; rw [wI1, if_neg (by omega), wI1, if_neg (by omega), wI_16]
  have r3 : (bgS σ n).1 3 0 3 = Int32.ofInt 0 := by unfold bgS; rw [wI1, if_neg (by omega), wI_16]
  have r4 : (bgS σ n).1 3 0 4 = Int32.ofInt (-1) := by unfold bgS; rw [wI_16]
  have hx : TxC (bgS σ n) B n := ⟨r10, fun j hj => by rw [f0.1 _ _ _ (by omega)]; exact hb j hj⟩
  have hk2 : KeyR (bgS σ n) := hk
  refine s_advance hC hx hB hk2 (Nat.zero_le _) r11 (fun σ' k1 k2 => ?_)
  conv => whnf
  refine h σ' ⟨hx.cha k2, hB, hk2.cha k2, k1⟩ ?_ ?_ ?_ (f0.tr (k2.mo (fun t i j z => by unfold tkS at z; omega) (fun _ _ _ z => z)))
  · rw [k2.1 _ _ _ (by unfold tkS; omega)]; exact r2
  · rw [k2.1 _ _ _ (by unfold tkS; omega)]; exact r3
  · rw [k2.1 _ _ _ (by unfold tkS; omega)]; exact r4
theorem sg_id : ∀ x : Fin 256, (Int32.ofInt (sg8 x.val)).toInt8.toInt32 = Int32.ofInt (sg8 x.val) := by decide +kernel
/-- the reference: it keeps the text first -/
def bmS (t i j : Nat) : Prop := (t = 46 ∧ i = 0 ∧ 10 ≤ j ∧ j ≤ 19 ∧ j ≠ 16) ∨ (t = 53 ∧ i = 0)
theorem m_begin {CALL : CT} (hC : RuleAll CALL) {r : Nat} {σ : AM} {K : AV → AM → Prop} {B : Nat → Int} {k n : Nat} {z : Int} {most : Nat} (hm : most ≤ 900) (z1 : -2147483648 ≤ z) (z2 : z < 2147483648) (h10 : σ.1 46 0 10 = Int32.ofInt (k : Int)) (hk : k ≤ 900) (hB : BOk B n) (hn : 0 ≤ z → z = (n : Int)) (hb : ∀ j, j < n → σ.1 52 0 j = Int32.ofInt (sg8 (B j).toNat)) (h1 : ¬ (0 ≤ z ∧ z ≤ (k : Int) ∧ z ≤ (most : Int)) → K (.inl (Int32.ofInt 0)) σ) (h2 : 0 ≤ z → z ≤ (k : Int) → z ≤ (most : Int) → ∀ σ' : AM, AMo σ' B n (tokF B n 0) → σ'.1 46 0 10 = Int32.ofInt 0 → σ'.1 46 0 17 = Int32.ofInt (-1) → σ'.1 46 0 19 = Int32.ofInt 0 → Ch bmS σ σ' → K (.inl (Int32.ofInt 1)) σ') : CALL (r + 3) n_m_begins [.inr (.inr (46, 0)), .inl (Int32.ofInt z), .inl (Int32.ofInt (most : Int))] σ K := by
  refine r_m_begins hC (fun J hJ => ?_)
  refine hJ _ _ _ _ ?_
  conv => whnf
  have bad : ¬ (0 ≤ z ∧ z ≤ (k : Int) ∧ z ≤ (most : Int)) → J 17 [.inr (.inr (46, 0)), .inl (Int32.ofInt z), .inl (Int32.ofInt (most : Int)), unset] [] σ := by
    intro y
    refine hJ _ _ _ _ ?_
    conv => whnf
    exact ⟨Or.inl rfl, h1 y⟩
  refine ⟨fun c => ?_, fun c => ?_⟩ <;> (try simp (disch := omega) only [oi_le, oi_lt, oi_eq, oi_lt0, oi_le0, oi_0lt, oi_0le, oi_eq0, oi_eq1, bI_eq0, bI_ne0, bI_eq1, decide_eq_true_eq, decide_eq_false_iff_not, lc_lt, lc_gt, lc_eq, lc_ge, lc_le, ol_lt, ol_eq, ne_eq, Int.not_lt, Int.not_le, Bool.not_eq_true, Bool.not_eq_false, Decidable.not_not, not_true_eq_false, not_false_eq_true, Bool.true_eq_false, Bool.false_eq_true] at c) <;> (first | (exfalso; omega) | ((fail_if_success with_reducible refine hJ _ _ _ _ ?_); conv => whnf) | skip)
  · exact bad (by omega)
  rw [h10]
  refine ⟨fun c2 => ?_, fun c2 => ?_⟩ <;> (try simp (disch := omega) only [oi_le, oi_lt, oi_eq, oi_lt0, oi_le0, oi_0lt, oi_0le, oi_eq0, oi_eq1, bI_eq0, bI_ne0, bI_eq1, decide_eq_true_eq, decide_eq_false_iff_not, lc_lt, lc_gt, lc_eq, lc_ge, lc_le, ol_lt, ol_eq, ne_eq, Int.not_lt, Int.not_le, Bool.not_eq_true, Bool.not_eq_false, Decidable.not_not, not_true_eq_false, not_false_eq_true, Bool.true_eq_false, Bool.false_eq_true] at c2) <;> (first | (exfalso; omega) | ((fail_if_success with_reducible refine hJ _ _ _ _ ?_); conv => whnf) | skip)
  · exact bad (by omega)
  refine ⟨fun c3 => ?_, fun c3 => ?_⟩ <;> (try simp (disch := omega) only [oi_le, oi_lt, oi_eq, oi_lt0, oi_le0, oi_0lt, oi_0le, oi_eq0, oi_eq1, bI_eq0, bI_ne0, bI_eq1, decide_eq_true_eq, decide_eq_false_iff_not, lc_lt, lc_gt, lc_eq, lc_ge, lc_le, ol_lt, ol_eq, ne_eq, Int.not_lt, Int.not_le, Bool.not_eq_true, Bool.not_eq_false, Decidable.not_not, not_true_eq_false, not_false_eq_true, Bool.true_eq_false, Bool.false_eq_true] at c3) <;> (first | (exfalso; omega) | ((fail_if_success with_reducible refine hJ _ _ _ _ ?_); conv => whnf) | skip)
  · have ez := hn (by omega)
    subst ez
    have loop : ∀ (m j : Nat) (σ1 : AM), j + m = n → σ1.1 46 0 11 = Int32.ofInt (n : Int) → (∀ i, i < n → σ1.1 52 0 i = Int32.ofInt (sg8 (B i).toNat)) → (∀ i, i < j → σ1.1 53 0 i = Int32.ofInt (sg8 (B i).toNat)) → Ch bmS σ σ1 → J 26 [.inr (.inr (46, 0)), .inl (Int32.ofInt (n : Int)), .inl (Int32.ofInt (most : Int)), .inl (Int32.ofInt (j : Int))] [] σ1 := by
      intro m
      induction m with
      | zero =>
        intro j σ1 hj e11 e52 e53 hch
        refine hJ _ _ _ _ ?_
        conv => whnf
        refine ⟨fun c4 => ?_, fun c4 => ?_⟩ <;> (try simp (disch := omega) only [oi_le, oi_lt, oi_eq, oi_lt0, oi_le0, oi_0lt, oi_0le, oi_eq0, oi_eq1, bI_eq0, bI_ne0, bI_eq1, decide_eq_true_eq, decide_eq_false_iff_not, lc_lt, lc_gt, lc_eq, lc_ge, lc_le, ol_lt, ol_eq, ne_eq, Int.not_lt, Int.not_le, Bool.not_eq_true, Bool.not_eq_false, Decidable.not_not, not_true_eq_false, not_false_eq_true, Bool.true_eq_false, Bool.false_eq_true] at c4) <;> (first | (exfalso; omega) | ((with_reducible refine hJ _ _ _ _ ?_); conv => whnf) | (conv => whnf))
        have hj2 : j = n := by omega
        subst hj2
        have f2 : Ch bmS σ1 (wI (wI (wI (wI (wI σ1 46 0 10 (Int32.ofInt 0)) 46 0 18 (Int32.ofInt 0)) 46 0 17 (Int32.ofInt (-1))) 46 0 14 (Int32.ofInt 0)) 46 0 19 (Int32.ofInt 0)) := ((((Ch.wI (Or.inl ⟨rfl, rfl, by omega⟩)).tr (Ch.wI (Or.inl ⟨rfl, rfl, by omega⟩))).tr (Ch.wI (Or.inl ⟨rfl, rfl, by omega⟩))).tr (Ch.wI (Or.inl ⟨rfl, rfl, by omega⟩))).tr (Ch.wI (Or.inl ⟨rfl, rfl, by omega⟩))
        have r10 : (wI (wI (wI (wI (wI σ1 46 0 10 (Int32.ofInt 0)) 46 0 18 (Int32.ofInt 0)) 46 0 17 (Int32.ofInt (-1))) 46 0 14 (Int32.ofInt 0)) 46 0 19 (Int32.ofInt 0)).1 46 0 10 = Int32.ofInt 0 := by rw [wI1, if_neg (by omega), wI1, if_neg (by omega), wI1, if_neg (by omega), wI1, if_neg (by omega), wI_16]
        have r18 : (wI (wI (wI (wI (wI σ1 46 0 10 (Int32.ofInt 0)) 46 0 18 (Int32.ofInt 0)) 46 0 17 (Int32.ofInt (-1))) 46 0 14 (Int32.ofInt 0)) 46 0 19 (Int32.ofInt 0)).1 46 0 18 = Int32.ofInt 0 := by rw [wI1, if_neg (by omega), wI1, if_neg (by omega), wI1, if_neg (by omega), wI_16]
        have r17 : (wI (wI (wI (wI (wI σ1 46 0 10 (Int32.ofInt 0)) 46 0 18 (Int32.ofInt 0)) 46 0 17 (Int32.ofInt (-1))) 46 0 14 (Int32.ofInt 0)) 46 0 19 (Int32.ofInt 0)).1 46 0 17 = Int32.ofInt (-1) := by rw [wI1, if_neg (by omega), wI1, if_neg (by omega), wI_16]
        have r14 : (wI (wI (wI (wI (wI σ1 46 0 10 (Int32.ofInt 0)) 46 0 18 (Int32.ofInt 0)) 46 0 17 (Int32.ofInt (-1))) 46 0 14 (Int32.ofInt 0)) 46 0 19 (Int32.ofInt 0)).1 46 0 14 = Int32.ofInt ((0 : Nat) : Int) := by rw [wI1, if_neg (by omega), wI_16]; rfl
        have r19 : (wI (wI (wI (wI (wI σ1 46 0 10 (Int32.ofInt 0)) 46 0 18 (Int32.ofInt 0)) 46 0 17 (Int32.ofInt (-1))) 46 0 14 (Int32.ofInt 0)) 46 0 19 (Int32.ofInt 0)).1 46 0 19 = Int32.ofInt 0 := wI_16
        have r11 : (wI (wI (wI (wI (wI σ1 46 0 10 (Int32.ofInt 0)) 46 0 18 (Int32.ofInt 0)) 46 0 17 (Int32.ofInt (-1))) 46 0 14 (Int32.ofInt 0)) 46 0 19 (Int32.ofInt 0)).1 46 0 11 = Int32.ofInt (j : Int) := by rw [wI1, if_neg (by omega), wI1, if_neg (by omega), wI1, if_neg (by omega), wI1, if_neg (by omega), wI1, if_neg (by omega)]; exact e11
        have r53 : ∀ i, i < j → (wI (wI (wI (wI (wI σ1 46 0 10 (Int32.ofInt 0)) 46 0 18 (Int32.ofInt 0)) 46 0 17 (Int32.ofInt (-1))) 46 0 14 (Int32.ofInt 0)) 46 0 19 (Int32.ofInt 0)).1 53 0 i = Int32.ofInt (sg8 (B i).toNat) := fun i hi => by rw [wI1, if_neg (by omega), wI1, if_neg (by omega), wI1, if_neg (by omega), wI1, if_neg (by omega), wI1, if_neg (by omega)]; exact e53 i hi
        revert f2 r10 r18 r17 r14 r19 r11 r53
        generalize (wI (wI (wI (wI (wI σ1 46 0 10 (Int32.ofInt 0)) 46 0 18 (Int32.ofInt 0)) 46 0 17 (Int32.ofInt (-1))) 46 0 14 (Int32.ofInt 0)) 46 0 19 (Int32.ofInt 0)) = σ2
        intro f2 r10 r18 r17 r14 r19 r11 r53
        have hx : TxM σ2 B j := ⟨r11, r53⟩
        refine s_m_ahead hC hx hB (Nat.zero_le _) r14 (fun σ3 k1 k2 => ?_)
        conv => whnf
        refine ⟨Or.inr rfl, h2 (by omega) (by omega) (by omega) σ3 ⟨hx.t k2, hB, k1, ?_⟩ ?_ ?_ ?_ ((hch.tr f2).tr (k2.mo (fun t i j z => Or.inl (by unfold tmS at z; omega))))⟩
        · rw [k2.1 _ _ _ (by unfold tmS; omega)]; exact r18
        · rw [k2.1 _ _ _ (by unfold tmS; omega)]; exact r10
        · rw [k2.1 _ _ _ (by unfold tmS; omega)]; exact r17
        · rw [k2.1 _ _ _ (by unfold tmS; omega)]; exact r19
      | succ m ih =>
        intro j σ1 hj e11 e52 e53 hch
        refine hJ _ _ _ _ ?_
        conv => whnf
        refine ⟨fun c4 => ?_, fun c4 => ?_⟩ <;> (try simp (disch := omega) only [oi_le, oi_lt, oi_eq, oi_lt0, oi_le0, oi_0lt, oi_0le, oi_eq0, oi_eq1, bI_eq0, bI_ne0, bI_eq1, decide_eq_true_eq, decide_eq_false_iff_not, lc_lt, lc_gt, lc_eq, lc_ge, lc_le, ol_lt, ol_eq, ne_eq, Int.not_lt, Int.not_le, Bool.not_eq_true, Bool.not_eq_false, Decidable.not_not, not_true_eq_false, not_false_eq_true, Bool.true_eq_false, Bool.false_eq_true] at c4) <;> (first | (exfalso; omega) | ((with_reducible refine hJ _ _ _ _ ?_); conv => whnf) | (conv => whnf))
        refine ⟨(oi_in (by omega) (by omega)).mpr ⟨by omega, by omega⟩, ?_⟩
        conv => whnf
        rw [oi_nat (by omega) (by omega), Int.toNat_natCast, e52 j (by omega)]
        have bj := hB.2 j (by omega)
        rw [sg_id ⟨(B j).toNat, by omega⟩]
        refine ⟨(oi_in (by omega) (by omega)).mpr ⟨by omega, by omega⟩, ?_⟩
        conv => whnf
        rw [oi_add]
        refine ih (j + 1) _ (by omega) (by rw [wI1, if_neg (by omega)]; exact e11) (fun i hi => by rw [wI1, if_neg (by omega)]; exact e52 i hi) (fun i hi => ?_) (hch.tr (Ch.wI (Or.inr ⟨rfl, rfl⟩)))
        by_cases ei : i = j
        · rw [ei, wI_16]
        · rw [wI1, if_neg (by omega)]; exact e53 i (by omega)
    refine hJ _ _ _ _ ?_
    conv => whnf
    refine loop n 0 _ (by omega) wI_16 (fun i hi => by rw [wI1, if_neg (by omega)]; exact hb i hi) (fun i hi => by omega) (Ch.wI (Or.inl ⟨rfl, rfl, by omega⟩))
  · exact bad (by omega)
