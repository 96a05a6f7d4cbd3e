def suG (k : Nat) (v : Int) (w : List Nat) : Int := if v = ((w.getD k 0 : Nat) : Int) then v else 1000000
def suV (P : List (List Nat)) (k : Nat) : Int := match P with
  | [] => 0
  | w :: ws => ws.foldl (suG k) ((w.getD k 0 : Nat) : Int)
theorem suV_snoc (P : List (List Nat)) (w : List Nat) (k : Nat) : suV (P ++ [w]) k = if P = [] then ((w.getD k 0 : Nat) : Int) else suG k (suV P k) w := by
  cases P with
  | nil => rfl
  | cons v vs =>
    rw [if_neg (by simp)]
    show (vs ++ [w]).foldl (suG k) _ = _
    rw [List.foldl_append]
    rfl
def PO (P : List (List Nat)) : Prop := ∀ w, w ∈ P → ∀ x, x ∈ w → x < 7
theorem getD_lt {w : List Nat} (h : ∀ x, x ∈ w → x < 7) (k : Nat) : w.getD k 0 < 7 := by
  rw [List.getD_eq_getElem?_getD]
  cases e : w[k]? with
  | none => decide
  | some x => exact h x (List.mem_of_getElem? e)
theorem suF_bd (k : Nat) : ∀ (ws : List (List Nat)) (v : Int), 0 ≤ v → v ≤ 1000000 → 0 ≤ ws.foldl (suG k) v ∧ ws.foldl (suG k) v ≤ 1000000
  | [], v, h1, h2 => ⟨h1, h2⟩
  | w :: ws, v, h1, h2 => by
    rw [List.foldl_cons]
    unfold suG
    by_cases e : v = ((w.getD k 0 : Nat) : Int)
    · rw [if_pos e]; exact suF_bd k ws v h1 h2
    · rw [if_neg e]; exact suF_bd k ws _ (by omega) (by omega)
theorem suV_bd {P : List (List Nat)} (h : PO P) (k : Nat) : 0 ≤ suV P k ∧ suV P k ≤ 1000000 := by
  cases P with
  | nil => exact ⟨by show (0 : Int) ≤ 0; omega, by show (0 : Int) ≤ 1000000; omega⟩
  | cons w ws =>
    have := getD_lt (h w List.mem_cons_self) k
    exact suF_bd k ws _ (by omega) (by omega)
theorem s_m_counts {CALL : CT} (hC : RuleAll CALL) {r : Nat} {σ : AM} {K : AV → AM → Prop} {n : Nat} {w : List Nat} {P : List (List Nat)} (hn : n ≤ 5) (h60 : ∀ l, l < n → σ.1 60 0 l = Int32.ofInt (w.getD l 0 : Nat)) (h37 : σ.1 46 0 37 = Int32.ofInt (P.length : Nat)) (h61 : P ≠ [] → ∀ k, k < n → σ.1 61 0 k = Int32.ofInt (suV P k)) (hp : PO P) (hww : ∀ x, x ∈ w → x < 7) (hl : P.length ≤ 100000) (h : ∀ σ' : AM, Ch (fun t q j => q = 0 ∧ (t = 61 ∨ (t = 46 ∧ j = 37))) σ σ' → σ'.1 46 0 37 = Int32.ofInt ((P ++ [w]).length : Nat) → (∀ k, k < n → σ'.1 61 0 k = Int32.ofInt (suV (P ++ [w]) k)) → K unset σ') : CALL (r + 1) n_m_counts [.inr (.inr (46, 0)), .inl (Int32.ofInt n)] σ K := by
  refine r_m_counts hC (fun J hJ => ?_)
  refine hJ _ _ _ _ ?_
  conv => whnf
  have loop : ∀ (c k : Nat) (σk : AM), k + c = n → Ch (fun t q j => q = 0 ∧ t = 61) σ σk → (∀ l, l < k → σk.1 61 0 l = Int32.ofInt (suV (P ++ [w]) l)) → (∀ l, k ≤ l → σk.1 61 0 l = σ.1 61 0 l) → J 2 [.inr (.inr (46, 0)), .inl (Int32.ofInt (n : Int)), .inl (Int32.ofInt (k : Int))] [] σk := by
    intro c
    induction c with
    | zero =>
      intro k σk hk hc g1 g2
      refine hJ _ _ _ _ ?_
      conv => whnf
      refine ⟨fun c1 => ?_, fun c1 => ?_⟩ <;> (try simp (disch := omega) only [oi_le, oi_lt, oi_eq, oi_lt0, oi_le0, oi_0lt, oi_0le, oi_eq0, oi_eq1, bI_eq0, bI_ne0, bI_eq1, decide_eq_true_eq, decide_eq_false_iff_not, lc_lt, lc_gt, lc_eq, lc_ge, lc_le, ol_lt, ol_eq, ne_eq, Int.not_lt, Int.not_le, Bool.not_eq_true, Bool.not_eq_false, Decidable.not_not, not_true_eq_false, not_false_eq_true, Bool.true_eq_false, Bool.false_eq_true] at c1) <;> (first | (exfalso; omega) | ((with_reducible refine hJ _ _ _ _ ?_); conv => whnf) | (conv => whnf))
      rw [hc.1 46 0 37 (by omega), h37, oi_succ]
      refine h _ ((hc.mo (fun t q j z => ⟨z.1, Or.inl z.2⟩)).tr (Ch.wI ⟨rfl, Or.inr ⟨rfl, rfl⟩⟩)) ?_ (fun l hl => ?_)
      · rw [wI_16, List.length_append]
        rfl
      · rw [wI1, if_neg (by omega)]
        exact g1 l (by omega)
    | succ c ih =>
      intro k σk hk hc g1 g2
      have wl7 := getD_lt hww k
      have sb := suV_bd hp k
      have e60 : σk.1 60 0 k = Int32.ofInt (w.getD k 0 : Nat) := by rw [hc.1 60 0 k (by omega), h60 k (by omega)]
      have at46 : ∀ v : Int, v = suV (P ++ [w]) k → J 46 [.inr (.inr (46, 0)), .inl (Int32.ofInt (n : Int)), .inl (Int32.ofInt (k : Int))] [.inl (Int32.ofInt v), .inl (Int32.ofInt (k : Int)), .inr (.inr (61, 0))] σk := by
        intro v hv
        refine hJ _ _ _ _ ?_
        conv => whnf
        refine ⟨(oi_in (by omega) (by omega)).mpr ⟨by omega, by omega⟩, ?_⟩
        conv => whnf
        rw [oi_nat (by omega) (by omega), Int.toNat_natCast, oi_succ]
        refine ih (k + 1) _ (by omega) (hc.tr (Ch.wI ⟨rfl, rfl⟩)) (fun l hl => ?_) (fun l hl => ?_)
        · rw [wI1]
          by_cases e : l = k
          · rw [if_pos ⟨rfl, rfl, e⟩, e, hv]
          · rw [if_neg (by omega)]; exact g1 l (by omega)
        · rw [wI1, if_neg (by omega)]; exact g2 l (by omega)
      have at34 : suV (P ++ [w]) k = ((w.getD k 0 : Nat) : Int) → J 34 [.inr (.inr (46, 0)), .inl (Int32.ofInt (n : Int)), .inl (Int32.ofInt (k : Int))] [.inl (Int32.ofInt (k : Int)), .inr (.inr (61, 0))] σk := by
        intro hv
        refine hJ _ _ _ _ ?_
        conv => whnf
        refine ⟨(oi_in (by omega) (by omega)).mpr ⟨by omega, by omega⟩, ?_⟩
        conv => whnf
        rw [oi_nat (by omega) (by omega), Int.toNat_natCast, e60]
        exact at46 _ hv.symm
      refine hJ _ _ _ _ ?_
      conv => whnf
      refine ⟨fun c1 => ?_, fun c1 => ?_⟩ <;> (try simp (disch := omega) only [oi_le, oi_lt, oi_eq, oi_lt0, oi_le0, oi_0lt, oi_0le, oi_eq0, oi_eq1, bI_eq0, bI_ne0, bI_eq1, decide_eq_true_eq, decide_eq_false_iff_not, lc_lt, lc_gt, lc_eq, lc_ge, lc_le, ol_lt, ol_eq, ne_eq, Int.not_lt, Int.not_le, Bool.not_eq_true, Bool.not_eq_false, Decidable.not_not, not_true_eq_false, not_false_eq_true, Bool.true_eq_false, Bool.false_eq_true] at c1) <;> (first | (exfalso; omega) | ((with_reducible refine hJ _ _ _ _ ?_); conv => whnf) | (conv => whnf))
      rw [hc.1 46 0 37 (by omega), h37]
      refine ⟨fun c2 => ?_, fun c2 => ?_⟩ <;> (try simp (disch := omega) only [oi_le, oi_lt, oi_eq, oi_lt0, oi_le0, oi_0lt, oi_0le, oi_eq0, oi_eq1, bI_eq0, bI_ne0, bI_eq1, decide_eq_true_eq, decide_eq_false_iff_not, lc_lt, lc_gt, lc_eq, lc_ge, lc_le, ol_lt, ol_eq, ne_eq, Int.not_lt, Int.not_le, Bool.not_eq_true, Bool.not_eq_false, Decidable.not_not, not_true_eq_false, not_false_eq_true, Bool.true_eq_false, Bool.false_eq_true] at c2) <;> (first | (exfalso; omega) | ((fail_if_success with_reducible refine hJ _ _ _ _ ?_); conv => whnf) | skip)
      · refine at34 ?_
        rw [suV_snoc, if_pos (List.length_eq_zero_iff.mp (by omega))]
      · have hne : P ≠ [] := fun z => by rw [z] at c2; exact c2 rfl
        refine ⟨(oi_in (by omega) (by omega)).mpr ⟨by omega, by omega⟩, ?_⟩
        conv => whnf
        refine ⟨(oi_in (by omega) (by omega)).mpr ⟨by omega, by omega⟩, ?_⟩
        conv => whnf
        rw [oi_nat (by omega) (by omega), Int.toNat_natCast, e60, g2 k (by omega), h61 hne k (by omega)]
        refine ⟨fun c3 => ?_, fun c3 => ?_⟩ <;> (try simp (disch := omega) only [oi_le, oi_lt, oi_eq, oi_lt0, oi_le0, oi_0lt, oi_0le, oi_eq0, oi_eq1, bI_eq0, bI_ne0, bI_eq1, decide_eq_true_eq, decide_eq_false_iff_not, lc_lt, lc_gt, lc_eq, lc_ge, lc_le, ol_lt, ol_eq, ne_eq, Int.not_lt, Int.not_le, Bool.not_eq_true, Bool.not_eq_false, Decidable.not_not, not_true_eq_false, not_false_eq_true, Bool.true_eq_false, Bool.false_eq_true] at c3) <;> (first | (exfalso; omega) | ((fail_if_success with_reducible refine hJ _ _ _ _ ?_); conv => whnf) | skip)
        · refine hJ _ _ _ _ ?_
          conv => whnf
          refine at46 1000000 ?_
          rw [suV_snoc, if_neg hne]
          unfold suG
          rw [if_neg c3]
        · refine at34 ?_
          rw [suV_snoc, if_neg hne]
          unfold suG
          rw [if_pos c3, c3]
  exact loop n 0 σ (by omega) Ch.rf (fun l hl => by omega) (fun l hl => rfl)
def HRf (σ : AM) (i n : Nat) (hs : Nat → Nat → Int) (pre : List Nat) (P : List (List Nat)) : Prop := (∀ l, l ≤ i → MRep σ (2790 + 97 * l) (hs l)) ∧ (∀ l, l < i → σ.1 60 0 l = Int32.ofInt (pre.getD l 0 : Nat)) ∧ σ.1 46 0 37 = Int32.ofInt (P.length : Nat) ∧ (P ≠ [] → ∀ k, k < n → σ.1 61 0 k = Int32.ofInt (suV P k))
def rhS (t q j : Nat) : Prop := q = 0 ∧ ((t = 47 ∧ (j < 97 ∨ 2790 ≤ j)) ∨ (t = 46 ∧ (j = 24 ∨ j = 25 ∨ j = 26 ∨ j = 37)) ∨ t = 60 ∨ t = 61)
theorem HRf.cg {σ σ' : AM} {i n : Nat} {hs : Nat → Nat → Int} {pre : List Nat} {P : List (List Nat)} (hr : HRf σ i n hs pre P) (e47 : ∀ j, 2790 ≤ j → j < 2790 + 97 * (i + 1) → σ'.1 47 0 j = σ.1 47 0 j) (e60 : ∀ l, l < i → σ'.1 60 0 l = σ.1 60 0 l) (e37 : σ'.1 46 0 37 = σ.1 46 0 37) (e61 : ∀ l, σ'.1 61 0 l = σ.1 61 0 l) : HRf σ' i n hs pre P := by
  refine ⟨fun l hl j hj => ?_, fun l hl => ?_, by rw [e37]; exact hr.2.2.1, fun hp l hl => ?_⟩
  · rw [e47 _ (by omega) (by omega)]
    exact hr.1 l hl j hj
  · rw [e60 l hl]
    exact hr.2.1 l hl
  · rw [e61]
    exact hr.2.2.2 hp l hl
theorem getD_snoc (pre : List Nat) (k l : Nat) : (pre ++ [k]).getD l 0 = if l < pre.length then pre.getD l 0 else if l = pre.length then k else 0 := by
  rw [List.getD_eq_getElem?_getD, List.getD_eq_getElem?_getD, List.getElem?_append]
  by_cases h1 : l < pre.length
  · rw [if_pos h1, if_pos h1]
  · rw [if_neg h1, if_neg h1]
    by_cases h2 : l = pre.length
    · rw [if_pos h2, h2, Nat.sub_self]; rfl
    · rw [if_neg h2, List.getElem?_eq_none (by simp; omega)]; rfl
theorem s_m_laysHeard {CALL : CT} (hC : RuleAll CALL) {r : Nat} {σ : AM} {K : AV → AM → Prop} {t0 n : Nat} {s : Nat → Nat} {h0 : Nat → Int} (hm : M0 σ h0) (hw : WF h0) (h5 : h0 5 + n ≤ 20000) (ht4 : t0 < 4) (n4 : n ≤ 4) (hsv : ∀ l, l < n → σ.2.1 51 0 (60 * t0 + l) = Int64.ofInt (s l : Int)) (hs0 : ∀ l, l < n → (s l : Int) < h0 0) (h : ∀ σ' : AM, Ch (fun t q j => rhS t q j ∧ (t = 47 → 97 ≤ j)) σ σ' → σ'.1 46 0 37 = Int32.ofInt ((wl s n h0 0).length : Nat) → (wl s n h0 0 ≠ [] → ∀ l, l < n → σ'.1 61 0 l = Int32.ofInt (suV (wl s n h0 0) l)) → K unset σ') : CALL (r + 5) n_m_laysHeard [.inr (.inr (46, 0)), .inl (Int32.ofInt t0), .inl (Int32.ofInt n)] σ K := by
  refine r_m_laysHeard hC (fun J hJ => ?_)
  refine hJ _ _ _ _ ?_
  conv => whnf
  have l2i : ∀ x : Nat, x < 100 → (Int64.ofInt (x : Int)).toInt32 = Int32.ofInt (x : Int) := by decide +kernel
  have b := hw.1
  have head : ∀ (k i : Nat) (hi : Nat → Int) (σi : AM) (x4 : AV), i ≤ 3 → k ≤ 7 → MRep σi (2790 + 97 * i) hi → WF hi → (k : Int) ≤ hi 1 → σi.1 60 0 i = Int32.ofInt ((k : Int) - 1) → (∀ σ2 : AM, σ2 = wI (cpI σi 47 0 47 0 (2790 + 97 * i) 0 97) 60 0 i (Int32.ofInt (k : Int)) → M0 σ2 hi → (hi 1 = (k : Int) → J 35 [.inr (.inr (46, 0)), .inl (Int32.ofInt (t0 : Int)), .inl (Int32.ofInt (n : Int)), .inl (Int32.ofInt ((i : Int) - 1)), x4] [] σ2) ∧ ((k : Int) < hi 1 → J 78 [.inr (.inr (46, 0)), .inl (Int32.ofInt (t0 : Int)), .inl (Int32.ofInt (n : Int)), .inl (Int32.ofInt (i : Int)), x4] [] σ2)) → J 35 [.inr (.inr (46, 0)), .inl (Int32.ofInt (t0 : Int)), .inl (Int32.ofInt (n : Int)), .inl (Int32.ofInt (i : Int)), x4] [] σi := by
    intro k i hi σi x4 i3 k7 hM hwi hkh h60 nx
    have b := hwi.1
    have hm2 : M0 (wI (cpI σi 47 0 47 0 (2790 + 97 * i) 0 97) 60 0 i (Int32.ofInt (k : Int))) hi := by
      intro j hj
      rw [wI1, if_neg (by omega), cpI1, if_pos ⟨rfl, rfl, by omega, by omega⟩, show 2790 + 97 * i + (j - 0) = 2790 + 97 * i + j by omega]
      exact hM j hj
    obtain ⟨n1', n2'⟩ := nx _ rfl hm2
    refine hJ _ _ _ _ ?_
    conv => whnf
    refine ⟨fun c => ?_, fun c => ?_⟩ <;> (try simp (disch := omega) only [oi_le, oi_lt, oi_eq, oi_lt0, oi_le0, oi_0lt, oi_0le, oi_eq0, oi_eq1, bI_eq0, bI_ne0, bI_eq1, decide_eq_true_eq, decide_eq_false_iff_not, lc_lt, lc_gt, lc_eq, lc_ge, lc_le, ol_lt, ol_eq, ne_eq, Int.not_lt, Int.not_le, Bool.not_eq_true, Bool.not_eq_false, Decidable.not_not, not_true_eq_false, not_false_eq_true, Bool.true_eq_false, Bool.false_eq_true] at c) <;> (first | (exfalso; omega) | ((with_reducible refine hJ _ _ _ _ ?_); conv => whnf) | (conv => whnf))
    refine s_m_levelAt hC ?_
    conv => whnf
    rw [show (2790 + 97 * (i : Int)) = ((2790 + 97 * i : Nat) : Int) by omega]
    refine s_m_restores hC (by omega) (by omega) ?_
    conv => whnf
    refine ⟨(oi_in (by omega) (by omega)).mpr ⟨by omega, by omega⟩, ?_⟩
    conv => whnf
    refine ⟨(oi_in (by omega) (by omega)).mpr ⟨by omega, by omega⟩, ?_⟩
    conv => whnf
    rw [oi_nat (by omega) (by omega), Int.toNat_natCast, show (cpI σi 47 0 47 0 (2790 + 97 * i) 0 97).1 60 0 i = Int32.ofInt ((k : Int) - 1) by rw [cpI1, if_neg (by omega), h60], oi_add, show (k : Int) - 1 + 1 = (k : Int) by omega]
    refine ⟨(oi_in (by omega) (by omega)).mpr ⟨by omega, by omega⟩, ?_⟩
    conv => whnf
    refine ⟨(oi_in (by omega) (by omega)).mpr ⟨by omega, by omega⟩, ?_⟩
    conv => whnf
    rw [show (Int32.ofInt 1).toNatClampNeg = 1 from rfl, hm2 1 (by omega)]
    rw [wI_16]
    refine ⟨fun c2 => ?_, fun c2 => ?_⟩ <;> (try simp (disch := omega) only [oi_le, oi_lt, oi_eq, oi_lt0, oi_le0, oi_0lt, oi_0le, oi_eq0, oi_eq1, bI_eq0, bI_ne0, bI_eq1, decide_eq_true_eq, decide_eq_false_iff_not, lc_lt, lc_gt, lc_eq, lc_ge, lc_le, ol_lt, ol_eq, ne_eq, Int.not_lt, Int.not_le, Bool.not_eq_true, Bool.not_eq_false, Decidable.not_not, not_true_eq_false, not_false_eq_true, Bool.true_eq_false, Bool.false_eq_true] at c2) <;> (first | (exfalso; omega) | ((fail_if_success with_reducible refine hJ _ _ _ _ ?_); conv => whnf) | skip)
    · exact n2' (by omega)
    · rw [oi_add]
      exact n1' c2.symm
  have main : ∀ (e c k i : Nat) (hs : Nat → Nat → Int) (pre : List Nat) (P : List (List Nat)) (σi : AM) (x4 : AV), i + (e + 1) = n → (k : Int) + c = hs i 1 → WF (hs i) → hs i 5 + (e + 1) ≤ 20000 → hs i 0 = h0 0 → pre.length = i → (∀ x, x ∈ pre → x < 7) → PO P → P.length + (wlM (wlF s e (hs i) i) c k).length ≤ 100000 → HRf σi i n hs pre P → σi.1 60 0 i = Int32.ofInt ((k : Int) - 1) → Ch rhS σ σi → (∀ (σ' : AM) (x4 : AV), HRf σ' i n hs pre (P ++ (wlM (wlF s e (hs i) i) c k).map (fun w => pre ++ w)) → PO (P ++ (wlM (wlF s e (hs i) i) c k).map (fun w => pre ++ w)) → Ch rhS σ σ' → J 35 [.inr (.inr (46, 0)), .inl (Int32.ofInt (t0 : Int)), .inl (Int32.ofInt (n : Int)), .inl (Int32.ofInt ((i : Int) - 1)), x4] [] σ') → J 35 [.inr (.inr (46, 0)), .inl (Int32.ofInt (t0 : Int)), .inl (Int32.ofInt (n : Int)), .inl (Int32.ofInt (i : Int)), x4] [] σi := by
    intro e
    induction e using Nat.strongRecOn with
    | ind e IH =>
      intro c
      induction c with
      | zero =>
        intro k i hs pre P σi x4 hin hkc hwi h55 hz hpl hp7 hPO hB hR h1 hc ret
        have b := hwi.1
        refine head k i (hs i) σi x4 (by omega) (by omega) (hR.1 i (by omega)) hwi (by omega) h1 (fun σ2 hσ2 hm2 => ⟨fun _ => ?_, fun z => by omega⟩)
        rw [wlM, List.map_nil, List.append_nil] at ret
        refine ret σ2 _ (hR.cg (fun j j1 j2 => ?_) (fun l hl => ?_) ?_ (fun l => ?_)) hPO (hc.tr ?_)
        · rw [hσ2, wI1, if_neg (by omega), cpI1, if_neg (by omega)]
        · rw [hσ2, wI1, if_neg (by omega), cpI1, if_neg (by omega)]
        · rw [hσ2, wI1, if_neg (by omega), cpI1, if_neg (by omega)]
        · rw [hσ2, wI1, if_neg (by omega), cpI1, if_neg (by omega)]
        · rw [hσ2]
          refine ⟨fun t q j z => ?_, rfl⟩
          unfold rhS at z
          rw [wI1, if_neg (by omega), cpI1, if_neg (by omega)]
      | succ c ih =>
        intro k i hs pre P σi x4 hin hkc hwi h55 hz hpl hp7 hPO hB hR h1 hc ret
        have b := hwi.1
        refine head k i (hs i) σi x4 (by omega) (by omega) (hR.1 i (by omega)) hwi (by omega) h1 (fun σ2 hσ2 hm2 => ⟨fun z => by omega, fun hk => ?_⟩)
        rw [wlM, List.map_append, List.map_map, ← List.append_assoc] at ret
        rw [wlM, List.length_append, List.length_map] at hB
        have hR2 : HRf σ2 i n hs pre P := by
          refine hR.cg (fun j j1 j2 => ?_) (fun l hl => ?_) ?_ (fun l => ?_)
          all_goals rw [hσ2, wI1, if_neg (by omega), cpI1, if_neg (by omega)]
        have hc2 : Ch rhS σ σ2 := by
          refine hc.tr ?_
          rw [hσ2]
          refine ⟨fun t q j z => ?_, rfl⟩
          unfold rhS at z
          rw [wI1, if_neg (by omega), cpI1, if_neg (by omega)]
        have e60k : σ2.1 60 0 i = Int32.ofInt (k : Int) := by rw [hσ2, wI_16]
        have hst := hs0 i (by omega)
        have s51 : σ2.2.1 51 0 (60 * t0 + i) = Int64.ofInt (s i : Int) := by rw [hc2.2]; exact hsv i (by omega)
        refine hJ _ _ _ _ ?_
        conv => whnf
        rw [oi_mul, oi_add]
        refine ⟨(oi_in (by omega) (by omega)).mpr ⟨by omega, by omega⟩, ?_⟩
        conv => whnf
        rw [oi_nat (by omega) (by omega), show (60 * (t0 : Int) + (i : Int)).toNat = 60 * t0 + i by omega, s51, l2i (s i) (by omega)]
        refine ⟨(oi_in (by omega) (by omega)).mpr ⟨by omega, by omega⟩, ?_⟩
        conv => whnf
        rw [oi_nat (by omega) (by omega), Int.toNat_natCast, e60k]
        refine s_m_canSay hC hm2 hwi hk (by omega) ?_
        conv => whnf
        refine ⟨fun c4 => ?_, fun c4 => ?_⟩ <;> (try simp (disch := omega) only [oi_le, oi_lt, oi_eq, oi_lt0, oi_le0, oi_0lt, oi_0le, oi_eq0, oi_eq1, bI_eq0, bI_ne0, bI_eq1, decide_eq_true_eq, decide_eq_false_iff_not, lc_lt, lc_gt, lc_eq, lc_ge, lc_le, ol_lt, ol_eq, ne_eq, Int.not_lt, Int.not_le, Bool.not_eq_true, Bool.not_eq_false, Decidable.not_not, not_true_eq_false, not_false_eq_true, Bool.true_eq_false, Bool.false_eq_true] at c4) <;> (first | (exfalso; omega) | ((with_reducible refine hJ _ _ _ _ ?_); conv => whnf) | (conv => whnf))
        · have sp := canS_sp c4 hk (by omega)
          have eF : wlF s e (hs i) i k = wl s e (goF (hs i) (some (k, s i))) (i + 1) := by unfold wlF; rw [if_pos c4]
          rw [eF] at ret hB
          have hwg := goF_WF hwi sp (by omega)
          have hmap : (fun w => pre ++ w) ∘ (fun w => k :: w) = fun w => (pre ++ [k]) ++ w := by
            funext w
            show pre ++ (k :: w) = (pre ++ [k]) ++ w
            rw [List.append_assoc]
            rfl
          rw [hmap] at ret
          have hp7' : ∀ x, x ∈ pre ++ [k] → x < 7 := by
            intro x hx
            rcases List.mem_append.mp hx with hx | hx
            · exact hp7 x hx
            · rw [List.mem_singleton] at hx; omega
          refine ⟨(oi_in (by omega) (by omega)).mpr ⟨by omega, by omega⟩, ?_⟩
          conv => whnf
          rw [oi_nat (by omega) (by omega), Int.toNat_natCast, e60k]
          refine s_m_saysBy hC (sp := some (k, s i)) hm2 hwi sp (by omega) (fun σ3 g1 g2 g3 => ?_)
          conv => whnf
          have c23 := g2.ch
          have hR3 : HRf σ3 i n hs pre P := hR2.cg (fun j j1 j2 => c23.1 _ _ _ (by unfold mS; omega)) (fun l hl => c23.1 _ _ _ (by unfold mS; omega)) (g3 37) (fun l => c23.1 _ _ _ (by unfold mS; omega))
          have hc3 : Ch rhS σ σ3 := hc2.tr (c23.mo (fun t q j z => by unfold mS at z; unfold rhS; omega))
          have e603 : σ3.1 60 0 i = Int32.ofInt (k : Int) := by rw [c23.1 _ _ _ (by unfold mS; omega), e60k]
          have e60a : ∀ l, l < i + 1 → σ3.1 60 0 l = Int32.ofInt ((pre ++ [k]).getD l 0 : Nat) := by
            intro l hl
            rw [getD_snoc, hpl]
            by_cases el : l = i
            · rw [if_neg (by omega), if_pos el, el, e603]
            · rw [if_pos (by omega), hR3.2.1 l (by omega)]
          rw [oi_succ]
          refine ⟨fun c5 => ?_, fun c5 => ?_⟩ <;> (try simp (disch := omega) only [oi_le, oi_lt, oi_eq, oi_lt0, oi_le0, oi_0lt, oi_0le, oi_eq0, oi_eq1, bI_eq0, bI_ne0, bI_eq1, decide_eq_true_eq, decide_eq_false_iff_not, lc_lt, lc_gt, lc_eq, lc_ge, lc_le, ol_lt, ol_eq, ne_eq, Int.not_lt, Int.not_le, Bool.not_eq_true, Bool.not_eq_false, Decidable.not_not, not_true_eq_false, not_false_eq_true, Bool.true_eq_false, Bool.false_eq_true] at c5) <;> (first | (exfalso; omega) | ((with_reducible refine hJ _ _ _ _ ?_); conv => whnf) | (conv => whnf))
          · have e0 : e = 0 := by omega
            subst e0
            rw [wl, List.map_cons, List.map_nil, List.append_nil] at ret
            rw [wl, List.length_singleton] at hB
            refine s_m_counts hC (w := pre ++ [k]) (P := P) (by omega) (fun l hl => e60a l (by omega)) hR3.2.2.1 hR3.2.2.2 hPO hp7' (by omega) (fun σ4 f1 f2 f3 => ?_)
            conv => whnf
            refine hJ _ _ _ _ ?_
            conv => whnf
            refine ih (k + 1) i hs pre (P ++ [pre ++ [k]]) σ4 _ hin (by omega) hwi h55 hz hpl hp7 ?_ ?_ ⟨fun l hl j hj => ?_, fun l hl => ?_, f2, fun _ => f3⟩ ?_ (hc3.tr (f1.mo (fun t q j z => by unfold rhS; omega))) ret
            · intro w hw x hx
              rcases List.mem_append.mp hw with hw | hw
              · exact hPO w hw x hx
              · rw [List.mem_singleton] at hw
                rw [hw] at hx
                exact hp7' x hx
            · rw [List.length_append, List.length_singleton]; omega
            · rw [f1.1 _ _ _ (by omega)]
              exact hR3.1 l hl j hj
            · rw [f1.1 _ _ _ (by omega)]
              exact hR3.2.1 l hl
            · rw [f1.1 _ _ _ (by omega), e603]
              congr 1
              omega
          · obtain ⟨e, rfl⟩ : ∃ q, e = q + 1 := ⟨e - 1, by omega⟩
            rw [oi_succ]
            refine ⟨(oi_in (by omega) (by omega)).mpr ⟨by omega, by omega⟩, ?_⟩
            conv => whnf
            refine s_m_levelAt hC ?_
            conv => whnf
            rw [oi_nat (by omega) (by omega), Int.toNat_natCast, show (2790 + 97 * ((i + 1 : Nat) : Int)) = ((2790 + 97 * (i + 1) : Nat) : Int) by omega]
            refine s_m_keeps hC (by omega) (by omega) ?_
            conv => whnf
            refine hJ _ _ _ _ ?_
            conv => whnf
            have hs1 : upH hs (i + 1) (goF (hs i) (some (k, s i))) (i + 1) = goF (hs i) (some (k, s i)) := upH_eq
            refine IH e (by omega) (hs i 1).toNat 0 (i + 1) (upH hs (i + 1) (goF (hs i) (some (k, s i)))) (pre ++ [k]) P _ _ (by omega) (by rw [hs1, goF_1]; omega) (by rw [hs1]; exact hwg) (by rw [hs1, goF_5']; omega) (by rw [hs1, goF_0']; exact hz) (by rw [List.length_append, hpl]; rfl) hp7' hPO ?_ ⟨fun l hl j hj => ?_, fun l hl => ?_, ?_, fun hp l hl => ?_⟩ ?_ ?_ (fun σ' y4 r1 r3 r2 => ?_)
            · rw [hs1]
              rw [wl_s, goF_1] at hB
              omega
            · by_cases el : l = i + 1
              · subst el
                rw [cpI1, if_pos ⟨rfl, rfl, by omega, by omega⟩, wI1, if_neg (by omega), show 0 + (2790 + 97 * (i + 1) + j - (2790 + 97 * (i + 1))) = j by omega, hs1]
                exact g1 j hj
              · rw [cpI1, if_neg (by omega), wI1, if_neg (by omega), upH_ne el]
                exact hR3.1 l (by omega) j hj
            · rw [cpI1, if_neg (by omega), wI1, if_neg (by omega)]
              exact e60a l hl
            · rw [cpI1, if_neg (by omega), wI1, if_neg (by omega)]
              exact hR3.2.2.1
            · rw [cpI1, if_neg (by omega), wI1, if_neg (by omega)]
              exact hR3.2.2.2 hp l hl
            · rw [cpI1, if_neg (by omega), wI_16]
              rfl
            · refine hc3.tr ⟨fun t q j z => ?_, rfl⟩
              unfold rhS at z
              rw [cpI1, if_neg (by omega), wI1, if_neg (by omega)]
            · rw [hs1] at r1 r3
              rw [wl_s, goF_1] at ret hB
              rw [show ((i + 1 : Nat) : Int) - 1 = (i : Int) by omega]
              refine ih (k + 1) i hs pre _ σ' _ hin (by omega) hwi h55 hz hpl hp7 r3 ?_ ⟨fun l hl j hj => ?_, fun l hl => ?_, r1.2.2.1, r1.2.2.2⟩ ?_ r2 ret
              · rw [List.length_append, List.length_map]
                omega
              · have := r1.1 l (by omega) j hj
                rw [upH_ne (by omega)] at this
                exact this
              · rw [r1.2.1 l (by omega), getD_snoc, hpl, if_pos hl]
              · rw [r1.2.1 i (by omega), getD_snoc, hpl, if_neg (by omega), if_pos rfl]
                congr 1
                omega
        · have eF : wlF s e (hs i) i k = [] := by unfold wlF; rw [if_neg (by rw [c4]; decide)]
          rw [eF, List.map_nil, List.append_nil] at ret
          rw [eF, List.length_nil] at hB
          exact ih (k + 1) i hs pre P σ2 _ hin (by omega) hwi h55 hz hpl hp7 hPO (by omega) hR2 (by rw [e60k]; congr 1; omega) hc2 ret
  refine ⟨fun c => ?_, fun c => ?_⟩ <;> (try simp (disch := omega) only [oi_le, oi_lt, oi_eq, oi_lt0, oi_le0, oi_0lt, oi_0le, oi_eq0, oi_eq1, bI_eq0, bI_ne0, bI_eq1, decide_eq_true_eq, decide_eq_false_iff_not, lc_lt, lc_gt, lc_eq, lc_ge, lc_le, ol_lt, ol_eq, ne_eq, Int.not_lt, Int.not_le, Bool.not_eq_true, Bool.not_eq_false, Decidable.not_not, not_true_eq_false, not_false_eq_true, Bool.true_eq_false, Bool.false_eq_true] at c) <;> (first | (exfalso; omega) | ((with_reducible refine hJ _ _ _ _ ?_); conv => whnf) | (conv => whnf))
  · refine hJ _ _ _ _ ?_
    conv => whnf
    refine ⟨fun c2 => ?_, fun c2 => ?_⟩ <;> (try simp (disch := omega) only [oi_le, oi_lt, oi_eq, oi_lt0, oi_le0, oi_0lt, oi_0le, oi_eq0, oi_eq1, bI_eq0, bI_ne0, bI_eq1, decide_eq_true_eq, decide_eq_false_iff_not, lc_lt, lc_gt, lc_eq, lc_ge, lc_le, ol_lt, ol_eq, ne_eq, Int.not_lt, Int.not_le, Bool.not_eq_true, Bool.not_eq_false, Decidable.not_not, not_true_eq_false, not_false_eq_true, Bool.true_eq_false, Bool.false_eq_true] at c2) <;> (first | (exfalso; omega) | ((with_reducible refine hJ _ _ _ _ ?_); conv => whnf) | (conv => whnf))
    refine ⟨(oi_in (by omega) (by omega)).mpr ⟨by omega, by omega⟩, ?_⟩
    conv => whnf
    refine s_m_levelAt hC ?_
    conv => whnf
    rw [show (Int32.ofInt 0).toNatClampNeg = 0 from rfl, show Int32.ofInt (2790 + 97 * 0) = Int32.ofInt ((2790 : Nat) : Int) from rfl]
    refine s_m_keeps hC (by omega) (by omega) ?_
    conv => whnf
    obtain ⟨m, rfl⟩ : ∃ q, n = q + 1 := ⟨n - 1, by omega⟩
    have len := wl_len s (m + 1) h0 0 (by omega)
    have len2 : 7 ^ (m + 1) ≤ 7 ^ 4 := Nat.pow_le_pow_right (by omega) (by omega)
    refine main m (h0 1).toNat 0 0 (fun _ => h0) [] [] _ _ (by omega) (by omega) hw (by omega) rfl rfl (fun x hx => absurd hx List.not_mem_nil) (fun w hw => absurd hw List.not_mem_nil) (by rw [← wl_s, List.length_nil]; omega) ⟨fun l hl j hj => ?_, fun l hl => by omega, ?_, fun z => absurd rfl z⟩ ?_ ?_ (fun σ' x4 r1 r3 r2 => ?_)
    · obtain rfl : l = 0 := by omega
      rw [cpI1, if_pos ⟨rfl, rfl, by omega, by omega⟩, wI1, if_neg (by omega), wI1, if_neg (by omega), show 0 + (2790 + 97 * 0 + j - 2790) = j by omega]
      exact hm j hj
    · rw [cpI1, if_neg (by omega), wI1, if_neg (by omega), wI_16]
      rfl
    · rw [cpI1, if_neg (by omega), wI_16]
      rfl
    · refine ⟨fun t q j z => ?_, rfl⟩
      unfold rhS at z
      rw [cpI1, if_neg (by omega), wI1, if_neg (by omega), wI1, if_neg (by omega)]
    · rw [← wl_s, List.nil_append, show (fun w : List Nat => [] ++ w) = id from rfl, List.map_id] at r1
      refine hJ _ _ _ _ ?_
      conv => whnf
      refine ⟨fun c3 => ?_, fun c3 => ?_⟩ <;> (try simp (disch := omega) only [oi_le, oi_lt, oi_eq, oi_lt0, oi_le0, oi_0lt, oi_0le, oi_eq0, oi_eq1, bI_eq0, bI_ne0, bI_eq1, decide_eq_true_eq, decide_eq_false_iff_not, lc_lt, lc_gt, lc_eq, lc_ge, lc_le, ol_lt, ol_eq, ne_eq, Int.not_lt, Int.not_le, Bool.not_eq_true, Bool.not_eq_false, Decidable.not_not, not_true_eq_false, not_false_eq_true, Bool.true_eq_false, Bool.false_eq_true] at c3) <;> (first | (exfalso; omega) | ((with_reducible refine hJ _ _ _ _ ?_); conv => whnf) | (conv => whnf))
      refine s_m_levelAt hC ?_
      conv => whnf
      rw [show Int32.ofInt (2790 + 97 * 0) = Int32.ofInt ((2790 : Nat) : Int) from rfl]
      refine s_m_restores hC (by omega) (by omega) ?_
      conv => whnf
      refine h _ ⟨fun t q j z => ?_, ?_⟩ ?_ (fun hne l hl => ?_)
      · by_cases hj : t = 47 ∧ q = 0 ∧ j < 97
        · rw [cpI1, if_pos (by omega), hj.1, hj.2.1]
          have := r1.1 0 (by omega) j hj.2.2
          rw [show 2790 + 97 * 0 + j = 2790 + (j - 0) by omega] at this
          rw [this, hm j hj.2.2]
        · rw [cpI1, if_neg (by omega)]
          refine r2.1 t q j (fun y => z ⟨y, fun e47 => ?_⟩)
          unfold rhS at y
          omega
      · show σ'.2 = _
        rw [r2.2]
      · rw [cpI1, if_neg (by omega)]
        exact r1.2.2.1
      · rw [cpI1, if_neg (by omega)]
        exact r1.2.2.2 hne l hl
  · refine hJ _ _ _ _ ?_
    conv => whnf
    refine ⟨fun c2 => ?_, fun c2 => ?_⟩ <;> (try simp (disch := omega) only [oi_le, oi_lt, oi_eq, oi_lt0, oi_le0, oi_0lt, oi_0le, oi_eq0, oi_eq1, bI_eq0, bI_ne0, bI_eq1, decide_eq_true_eq, decide_eq_false_iff_not, lc_lt, lc_gt, lc_eq, lc_ge, lc_le, ol_lt, ol_eq, ne_eq, Int.not_lt, Int.not_le, Bool.not_eq_true, Bool.not_eq_false, Decidable.not_not, not_true_eq_false, not_false_eq_true, Bool.true_eq_false, Bool.false_eq_true] at c2) <;> (first | (exfalso; omega) | ((with_reducible refine hJ _ _ _ _ ?_); conv => whnf) | (conv => whnf))
    obtain rfl : n = 0 := by omega
    exact h _ (Ch.wI ⟨⟨rfl, Or.inr (Or.inl ⟨rfl, Or.inr (Or.inr (Or.inr rfl))⟩)⟩, fun z => by omega⟩) wI_16 (fun _ l hl => by omega)
