def TxC (σ : AM) (B : Nat → Int) (L : Nat) : Prop := σ.1 3 0 10 = Int32.ofInt (L : Int) ∧ ∀ j, j < L → σ.1 4 0 j = Int32.ofInt (B j)
def tkS (t q j : Nat) : Prop := t = 3 ∧ q = 0 ∧ 5 ≤ j ∧ j ≠ 10
def tkL (t q j : Nat) : Prop := t = 3 ∧ q = 0 ∧ j = 9
def nmT (B : Nat → Int) (L f : Nat) : Int := if kdT B L f = 2 ∧ tokE B L f - f ≤ 8 then ((enc5 (wdT B f (tokE B L f)) : Nat) : Int) else 0
def TC (σ : AM) (B : Nat → Int) (L f : Nat) : Prop := f ≤ L ∧ σ.1 3 0 5 = Int32.ofInt (kC (kdT B L f)) ∧ σ.1 3 0 6 = Int32.ofInt (f : Int) ∧ σ.1 3 0 7 = Int32.ofInt (kmC (kwT B L f)) ∧ (kdT B L f = 3 ∨ kdT B L f = 4 → σ.1 3 0 8 = Int32.ofInt (vlT B L f)) ∧ σ.2.1 3 0 9 = Int64.ofInt (nmT B L f) ∧ σ.1 3 0 11 = Int32.ofInt ((tokE B L f : Nat) : Int)
theorem TxC.cg {σ σ' : AM} {B : Nat → Int} {L : Nat} (h : TxC σ B L) (e : ∀ t q j, ¬ tkS t q j → (t = 3 ∧ q = 0 ∧ j = 10) ∨ (t = 4 ∧ q = 0) → σ'.1 t q j = σ.1 t q j) : TxC σ' B L := ⟨by rw [e 3 0 10 (by unfold tkS; omega) (by omega)]; exact h.1, fun j hj => by rw [e 4 0 j (by unfold tkS; omega) (by omega)]; exact h.2 j hj⟩
theorem TxC.cha {σ σ' : AM} {B : Nat → Int} {L : Nat} (h : TxC σ B L) (e : ChA tkS tkL σ σ') : TxC σ' B L := h.cg (fun t q j z _ => e.1 t q j z)
theorem KeyR.cha {σ σ' : AM} (h : KeyR σ) (e : ChA tkS tkL σ σ') : KeyR σ' := h.c2 (fun j => e.2.1 _ _ _ (by unfold tkL; omega))
theorem shl_or (k : Nat) (hk : k = 5 ∨ k = 8) {a d : Nat} (ha : a * 2 ^ k + d < 18446744073709551616) (hd : d < 2 ^ k) : (Int64.ofInt (a : Int) <<< ((Int32.ofInt (k : Int)).toInt64 &&& 63)) ||| Int64.ofInt (d : Int) = Int64.ofInt ((a * 2 ^ k + d : Nat) : Int) := by
  apply Int64.toBitVec_inj.mp
  have e0 : (((Int32.ofInt (k : Int)).toInt64 &&& 63).toBitVec.smod 64#64).toNat = k := by rcases hk with rfl | rfl <;> decide +kernel
  have h1 : (Int64.ofInt (a : Int) <<< ((Int32.ofInt (k : Int)).toInt64 &&& 63)).toBitVec = (BitVec.ofNat 64 a) <<< k := by
    rw [Int64.toBitVec_shiftLeft]
    show (BitVec.ofInt 64 (a : Int)) <<< (((Int32.ofInt (k : Int)).toInt64 &&& 63).toBitVec.smod 64#64).toNat = _
    rw [e0, BitVec.ofInt_natCast]
  rw [Int64.toBitVec_or, h1]
  show BitVec.ofNat 64 a <<< k ||| BitVec.ofInt 64 (d : Int) = BitVec.ofInt 64 ((a * 2 ^ k + d : Nat) : Int)
  rw [BitVec.ofInt_natCast, BitVec.ofInt_natCast]
  apply BitVec.eq_of_toNat_eq
  have hal : a < 18446744073709551616 := by
    have : a * 1 ≤ a * 2 ^ k := Nat.mul_le_mul_left a (Nat.one_le_two_pow)
    omega
  rw [BitVec.toNat_or, BitVec.toNat_shiftLeft, BitVec.toNat_ofNat, BitVec.toNat_ofNat, BitVec.toNat_ofNat, show (2 : Nat) ^ 64 = 18446744073709551616 from by decide, Nat.mod_eq_of_lt hal, Nat.mod_eq_of_lt ha, Nat.mod_eq_of_lt (show d < 18446744073709551616 by omega), Nat.shiftLeft_eq, Nat.mod_eq_of_lt (show a * 2 ^ k < 18446744073709551616 by omega), ← Nat.shiftLeft_eq, ← Nat.shiftLeft_add_eq_or_of_lt hd, Nat.shiftLeft_eq]
/-- the class's number of a word, as it is looked for -/
def lwI (w : List Nat) : Nat → Int
  | 0 => -1
  | i + 1 => if keyW.getD i [] = w then (i : Int) else lwI w i
theorem lwI_bd (w : List Nat) : ∀ i, -1 ≤ lwI w i ∧ lwI w i ≤ i
  | 0 => ⟨by show (-1 : Int) ≤ -1; omega, by show (-1 : Int) ≤ ((0 : Nat) : Int); omega⟩
  | i + 1 => by
    have := lwI_bd w i
    rw [lwI]
    split <;> omega
theorem lwI_key : ∀ n : Fin 23, lwI (keyM.getD n.val []) 23 = kmC ((n.val : Nat) : Int) := by decide +kernel
theorem keyW_M : ∀ i : Fin 23, ∃ n : Fin 23, keyW.getD i.val [] = keyM.getD n.val [] := by decide +kernel
theorem keyW_ok : ∀ i : Fin 23, WordOk (keyW.getD i.val []) := by
  have key : ∀ i : Fin 23, (keyW.getD i.val []) ≠ [] ∧ (keyW.getD i.val []).length ≤ 7 ∧ (keyW.getD i.val []).all (fun c => decide (97 ≤ c ∧ c ≤ 122)) = true := by decide +kernel
  intro i
  obtain ⟨h1, h2, h3⟩ := key i
  exact ⟨h1, by omega, fun c hc => by have := List.all_eq_true.mp h3 c hc; rw [decide_eq_true_eq] at this; exact this⟩
theorem keyM_len : ∀ n : Fin 23, (keyM.getD n.val []).length ≤ 7 := by decide +kernel
theorem lwI_kw (w : List Nat) : lwI w 23 = kmC (opI (kwI w)) := by
  cases e : kwI w with
  | some n =>
    obtain ⟨h1, h2⟩ := kwI_lt e
    rw [← h2]
    exact lwI_key ⟨n, h1⟩
  | none =>
    have hno := firstF_no.mp e
    have key : ∀ i, i ≤ 23 → lwI w i = -1 := by
      intro i
      induction i with
      | zero => intro _; rfl
      | succ i ih =>
        intro hi
        rw [lwI, if_neg, ih (by omega)]
        intro z
        obtain ⟨n, hn⟩ := keyW_M ⟨i, by omega⟩
        have := hno n.val (by omega) (by omega)
        rw [decide_eq_false_iff_not] at this
        exact this (hn.symm.trans z)
    rw [key 23 (by omega)]
    rfl
theorem s_readWord {CALL : CT} (hC : RuleAll CALL) {r : Nat} {σ : AM} {K : AV → AM → Prop} {B : Nat → Int} {L f : Nat} (hx : TxC σ B L) (hB : BOk B L) (hk : KeyR σ) (hf : f < L) (hs : sml (B f) = true) (h6 : σ.1 3 0 6 = Int32.ofInt (f : Int)) (h7 : σ.1 3 0 7 = Int32.ofInt (-1)) (h11 : σ.1 3 0 11 = Int32.ofInt (f : Int)) (h9 : σ.2.1 3 0 9 = Int64.ofInt 0) (h : ∀ σ' : AM, TC σ' B L f → ChA tkS tkL σ σ' → K unset σ') : CALL (r + 1) n_Tape_readWord [.inr (.inr (3, 0))] σ K := by
  refine r_Tape_readWord hC (fun J hJ => ?_)
  refine hJ _ _ _ _ ?_
  conv => whnf
  have hL := hB.1
  have kd : kdT B L f = 2 := by unfold kdT; rw [if_neg (by omega), if_pos hs]
  have he : tokE B L f = rn' sml B L L f := by unfold tokE; rw [if_neg (by omega), if_pos hs]
  have eo := tokE_ok (B := B) (L := L) (f := f) (by omega)
  have kw : kwT B L f = opI (kwI (wdT B f (tokE B L f))) := if_pos kd
  -- behind the letters
  have at79 : ∀ (σe : AM) (sp : Int64) (x3 : AV), ChA tkS tkL σ σe → σe.1 3 0 5 = Int32.ofInt 1 → σe.1 3 0 6 = Int32.ofInt (f : Int) → σe.1 3 0 7 = Int32.ofInt (-1) → σe.1 3 0 11 = Int32.ofInt ((tokE B L f : Nat) : Int) → σe.2.1 3 0 9 = Int64.ofInt 0 → (tokE B L f - f ≤ 8 → sp = Int64.ofInt ((enc5 (wdT B f (tokE B L f)) : Nat) : Int)) → J 79 [.inr (.inr (3, 0)), .inr (.inl sp), unset, x3] [] σe := by
    intro σe sp x3 hc e5 e6 e7 e11 e9 hsp
    have hke := hk.cha hc
    refine hJ _ _ _ _ ?_
    conv => whnf
    rw [e11, e6, oi_sub]
    refine ⟨fun c => ?_, fun c => ?_⟩ <;> (try simp (disch := omega) only [oi_le, oi_lt, oi_eq, oi_lt0, oi_le0, oi_0lt, oi_0le, oi_eq0, oi_eq1, bI_eq0, bI_ne0, bI_eq1, decide_eq_true_eq, decide_eq_false_iff_not, lc_lt, lc_gt, lc_eq, lc_ge, lc_le, ol_lt, ol_eq, ne_eq, Int.not_lt, Int.not_le, Bool.not_eq_true, Bool.not_eq_false, Decidable.not_not, not_true_eq_false, not_false_eq_true, Bool.true_eq_false, Bool.false_eq_true] at c) <;> (first | (exfalso; omega) | ((with_reducible refine hJ _ _ _ _ ?_); conv => whnf) | (conv => whnf))
    · have h8 : tokE B L f - f ≤ 8 := by omega
      have wok := wdT_ok (B := B) (L := L) kd h8 (by omega)
      have hsp := hsp h8
      have nm : nmT B L f = ((enc5 (wdT B f (tokE B L f)) : Nat) : Int) := if_pos ⟨kd, h8⟩
      have loop : ∀ (d i : Nat) (σi : AM), i + d = 23 → ChA tkS tkL σ σi → σi.1 3 0 5 = Int32.ofInt 1 → σi.1 3 0 6 = Int32.ofInt (f : Int) → σi.1 3 0 7 = Int32.ofInt (lwI (wdT B f (tokE B L f)) i) → σi.1 3 0 11 = Int32.ofInt ((tokE B L f : Nat) : Int) → σi.2.1 3 0 9 = Int64.ofInt ((enc5 (wdT B f (tokE B L f)) : Nat) : Int) → J 101 [.inr (.inr (3, 0)), .inr (.inl sp), unset, .inl (Int32.ofInt (i : Int))] [] σi := by
        intro d
        induction d with
        | zero =>
          intro i σi hi hci i5 i6 i7 i11 i9
          refine hJ _ _ _ _ ?_
          conv => whnf
          refine ⟨fun c2 => ?_, fun c2 => ?_⟩ <;> (try simp (disch := omega) only [oi_le, oi_lt, oi_eq, oi_lt0, oi_le0, oi_0lt, oi_0le, oi_eq0, oi_eq1, bI_eq0, bI_ne0, bI_eq1, decide_eq_true_eq, decide_eq_false_iff_not, lc_lt, lc_gt, lc_eq, lc_ge, lc_le, ol_lt, ol_eq, ne_eq, Int.not_lt, Int.not_le, Bool.not_eq_true, Bool.not_eq_false, Decidable.not_not, not_true_eq_false, not_false_eq_true, Bool.true_eq_false, Bool.false_eq_true] at c2) <;> (first | (exfalso; omega) | ((with_reducible refine hJ _ _ _ _ ?_); conv => whnf) | (conv => whnf))
          refine h σi ⟨by omega, ?_, i6, ?_, fun z => by omega, by rw [nm]; exact i9, i11⟩ hci
          · rw [kd]; exact i5
          · rw [kw, ← lwI_kw, i7, show i = 23 by omega]
        | succ d ih =>
          intro i σi hi hci i5 i6 i7 i11 i9
          have wki : WordOk (keyW.getD i []) := keyW_ok ⟨i, by omega⟩
          have l1 := enc5_lt wok
          have l2 := enc5_lt wki
          have hki := (hk.cha hci) i (by omega)
          refine hJ _ _ _ _ ?_
          conv => whnf
          refine ⟨fun c2 => ?_, fun c2 => ?_⟩ <;> (try simp (disch := omega) only [oi_le, oi_lt, oi_eq, oi_lt0, oi_le0, oi_0lt, oi_0le, oi_eq0, oi_eq1, bI_eq0, bI_ne0, bI_eq1, decide_eq_true_eq, decide_eq_false_iff_not, lc_lt, lc_gt, lc_eq, lc_ge, lc_le, ol_lt, ol_eq, ne_eq, Int.not_lt, Int.not_le, Bool.not_eq_true, Bool.not_eq_false, Decidable.not_not, not_true_eq_false, not_false_eq_true, Bool.true_eq_false, Bool.false_eq_true] at c2) <;> (first | (exfalso; omega) | ((with_reducible refine hJ _ _ _ _ ?_); conv => whnf) | (conv => whnf))
          refine ⟨(oi_in (by omega) (by omega)).mpr ⟨by omega, by omega⟩, ?_⟩
          conv => whnf
          rw [oi_nat (by omega) (by omega), Int.toNat_natCast, hki, i9]
          have lbd := lwI_bd (wdT B f (tokE B L f)) i
          refine ⟨fun z => ?_, fun z => ?_⟩
          · rw [lc_eq, ol_eq (by omega) (by omega) (by omega) (by omega)] at z
            refine hJ _ _ _ _ ?_
            conv => whnf
            rw [oi_succ]
            refine ih (i + 1) σi (by omega) hci i5 i6 ?_ i11 i9
            rw [lwI, if_neg (fun e => z (by rw [e]))]
            exact i7
          · rw [lc_eq, ol_eq (by omega) (by omega) (by omega) (by omega)] at z
            have e := enc5_inj wki.2.2 wok.2.2 (by omega)
            conv => whnf
            refine hJ _ _ _ _ ?_
            conv => whnf
            rw [oi_succ]
            refine ih (i + 1) _ (by omega) (hci.tr (ChA.wI ⟨rfl, rfl, by omega, by omega⟩)) (by rw [wI1, if_neg (by omega), i5]) (by rw [wI1, if_neg (by omega), i6]) ?_ (by rw [wI1, if_neg (by omega), i11]) i9
            rw [wI_16, lwI, if_pos e]
      refine loop 23 0 _ (by omega) (hc.tr ⟨fun _ _ _ _ => rfl, fun t q j z => ?_, rfl⟩) e5 e6 e7 e11 ?_
      · unfold tkL at z
        rw [wL1, if_neg (by omega)]
      · rw [wL1, if_pos ⟨rfl, rfl, rfl⟩, hsp]
    · have h8 : ¬ tokE B L f - f ≤ 8 := by omega
      have nm : nmT B L f = 0 := if_neg (fun z => h8 z.2)
      refine h σe ⟨by omega, ?_, e6, ?_, fun z => by omega, by rw [nm]; exact e9, e11⟩ hc
      · rw [kd]; exact e5
      · have : kwI (wdT B f (tokE B L f)) = none := by
          cases e : kwI (wdT B f (tokE B L f)) with
          | none => rfl
          | some n =>
            exfalso
            obtain ⟨z1, z2⟩ := kwI_lt e
            have := keyM_len ⟨n, z1⟩
            have this : (keyM.getD n []).length ≤ 7 := this
            rw [z2, wdT_len] at this
            omega
        rw [kw, this, e7]
        rfl
  have loop : ∀ (d e : Nat) (σe : AM) (sp : Int64) (x3 : AV), L ≤ e + d → f ≤ e → e ≤ L → rn' sml B L d e = tokE B L f → ChA tkS tkL σ σe → σe.1 3 0 5 = Int32.ofInt 1 → σe.1 3 0 6 = Int32.ofInt (f : Int) → σe.1 3 0 7 = Int32.ofInt (-1) → σe.1 3 0 11 = Int32.ofInt (e : Int) → σe.2.1 3 0 9 = Int64.ofInt 0 → (e - f ≤ 8 → sp = Int64.ofInt ((enc5 (wdT B f e) : Nat) : Int)) → (∀ j, f ≤ j → j < e → sml (B j) = true) → J 7 [.inr (.inr (3, 0)), .inr (.inl sp), unset, x3] [] σe := by
    intro d
    induction d with
    | zero =>
      intro e σe sp x3 h1 h2 h3 h4 hc e5 e6 e7 e11 e9 hsp hall
      rw [rn'] at h4
      have hx2 := hx.cha hc
      refine hJ _ _ _ _ ?_
      conv => whnf
      rw [e11, hx2.1]
      refine ⟨fun c => ?_, fun c => ?_⟩ <;> (try simp (disch := omega) only [oi_le, oi_lt, oi_eq, oi_lt0, oi_le0, oi_0lt, oi_0le, oi_eq0, oi_eq1, bI_eq0, bI_ne0, bI_eq1, decide_eq_true_eq, decide_eq_false_iff_not, lc_lt, lc_gt, lc_eq, lc_ge, lc_le, ol_lt, ol_eq, ne_eq, Int.not_lt, Int.not_le, Bool.not_eq_true, Bool.not_eq_false, Decidable.not_not, not_true_eq_false, not_false_eq_true, Bool.true_eq_false, Bool.false_eq_true] at c) <;> (first | (exfalso; omega) | ((fail_if_success with_reducible refine hJ _ _ _ _ ?_); conv => whnf) | skip)
      exact at79 σe sp _ hc e5 e6 e7 (by rw [e11, h4]) e9 (by rw [← h4]; exact hsp)
    | succ d ih =>
      intro e σe sp x3 h1 h2 h3 h4 hc e5 e6 e7 e11 e9 hsp hall
      rw [rn'] at h4
      have hx2 := hx.cha hc
      by_cases ce : e < L ∧ sml (B e) = true
      · rw [if_pos ce] at h4
        have cs := ce.2
        unfold sml at cs
        rw [decide_eq_true_eq] at cs
        have be := hx2.2 e ce.1
        refine hJ _ _ _ _ ?_
        conv => whnf
        rw [e11, hx2.1]
        refine ⟨fun c => ?_, fun c => ?_⟩ <;> (try simp (disch := omega) only [oi_le, oi_lt, oi_eq, oi_lt0, oi_le0, oi_0lt, oi_0le, oi_eq0, oi_eq1, bI_eq0, bI_ne0, bI_eq1, decide_eq_true_eq, decide_eq_false_iff_not, lc_lt, lc_gt, lc_eq, lc_ge, lc_le, ol_lt, ol_eq, ne_eq, Int.not_lt, Int.not_le, Bool.not_eq_true, Bool.not_eq_false, Decidable.not_not, not_true_eq_false, not_false_eq_true, Bool.true_eq_false, Bool.false_eq_true] at c) <;> (first | (exfalso; omega) | ((fail_if_success with_reducible refine hJ _ _ _ _ ?_); conv => whnf) | skip)
        rw [e11]
        refine ⟨(oi_in (by omega) (by omega)).mpr ⟨by omega, by omega⟩, ?_⟩
        conv => whnf
        rw [oi_nat (by omega) (by omega), Int.toNat_natCast, be]
        refine ⟨fun c2 => ?_, fun c2 => ?_⟩ <;> (try simp (disch := omega) only [oi_le, oi_lt, oi_eq, oi_lt0, oi_le0, oi_0lt, oi_0le, oi_eq0, oi_eq1, bI_eq0, bI_ne0, bI_eq1, decide_eq_true_eq, decide_eq_false_iff_not, lc_lt, lc_gt, lc_eq, lc_ge, lc_le, ol_lt, ol_eq, ne_eq, Int.not_lt, Int.not_le, Bool.not_eq_true, Bool.not_eq_false, Decidable.not_not, not_true_eq_false, not_false_eq_true, Bool.true_eq_false, Bool.false_eq_true] at c2) <;> (first | (exfalso; omega) | ((fail_if_success with_reducible refine hJ _ _ _ _ ?_); conv => whnf) | skip)
        rw [e11]
        refine ⟨(oi_in (by omega) (by omega)).mpr ⟨by omega, by omega⟩, ?_⟩
        conv => whnf
        rw [oi_nat (by omega) (by omega), Int.toNat_natCast, be]
        refine ⟨fun c3 => ?_, fun c3 => ?_⟩ <;> (try simp (disch := omega) only [oi_le, oi_lt, oi_eq, oi_lt0, oi_le0, oi_0lt, oi_0le, oi_eq0, oi_eq1, bI_eq0, bI_ne0, bI_eq1, decide_eq_true_eq, decide_eq_false_iff_not, lc_lt, lc_gt, lc_eq, lc_ge, lc_le, ol_lt, ol_eq, ne_eq, Int.not_lt, Int.not_le, Bool.not_eq_true, Bool.not_eq_false, Decidable.not_not, not_true_eq_false, not_false_eq_true, Bool.true_eq_false, Bool.false_eq_true] at c3) <;> (first | (exfalso; omega) | ((fail_if_success with_reducible refine hJ _ _ _ _ ?_); conv => whnf) | skip)
        rw [e11]
        refine ⟨(oi_in (by omega) (by omega)).mpr ⟨by omega, by omega⟩, ?_⟩
        conv => whnf
        rw [oi_nat (by omega) (by omega), Int.toNat_natCast, be, e11, oi_sub, oi_add, oi_succ, oi_l (by omega) (by omega)]
        refine ih (e + 1) _ _ _ (by omega) (by omega) (by omega) h4 (hc.tr (ChA.wI ⟨rfl, rfl, by omega, by omega⟩)) (by rw [wI1, if_neg (by omega), e5]) (by rw [wI1, if_neg (by omega), e6]) (by rw [wI1, if_neg (by omega), e7]) (by rw [wI_16]) e9 (fun h8 => ?_) (fun j j1 j2 => ?_)
        · rw [hsp (by omega), wdT_s B h2, enc5_s]
          have hlt := enc_lt enc5 32 96 rfl enc5_s (by omega) (wdT B f e) (fun x hx' => by
            unfold wdT at hx'
            obtain ⟨i, hi, rfl⟩ := List.mem_map.mp hx'
            rw [List.mem_range] at hi
            have := hall (f + i) (by omega) (by omega)
            unfold sml at this
            rw [decide_eq_true_eq] at this
            omega)
          rw [wdT_len] at hlt
          have p8 : (32 : Nat) ^ (e - f) ≤ 32 ^ 8 := Nat.pow_le_pow_right (by omega) (by omega)
          have p9 : (32 : Nat) ^ 8 = 1099511627776 := by decide
          have := shl_or 5 (Or.inl rfl) (a := enc5 (wdT B f e)) (d := (B e).toNat - 96) (by omega) (by omega)
          rw [show B e - 97 + 1 = (((B e).toNat - 96 : Nat) : Int) by omega]
          rw [show (2 : Nat) ^ 5 = 32 from rfl] at this
          rw [oi_l (a := (((B e).toNat - 96 : Nat) : Int)) (by omega) (by omega), show Int64.ofInt 5 = (Int32.ofInt ((5 : Nat) : Int)).toInt64 by decide]
          exact this
        · by_cases ej : j = e
          · rw [ej]; exact ce.2
          · exact hall j j1 (by omega)
      · rw [if_neg ce] at h4
        have fin := at79 σe sp x3 hc e5 e6 e7 (by rw [e11, h4]) e9 (by rw [← h4]; exact hsp)
        refine hJ _ _ _ _ ?_
        conv => whnf
        rw [e11, hx2.1]
        refine ⟨fun c => ?_, fun c => ?_⟩ <;> (try simp (disch := omega) only [oi_le, oi_lt, oi_eq, oi_lt0, oi_le0, oi_0lt, oi_0le, oi_eq0, oi_eq1, bI_eq0, bI_ne0, bI_eq1, decide_eq_true_eq, decide_eq_false_iff_not, lc_lt, lc_gt, lc_eq, lc_ge, lc_le, ol_lt, ol_eq, ne_eq, Int.not_lt, Int.not_le, Bool.not_eq_true, Bool.not_eq_false, Decidable.not_not, not_true_eq_false, not_false_eq_true, Bool.true_eq_false, Bool.false_eq_true] at c) <;> (first | (exfalso; omega) | ((fail_if_success with_reducible refine hJ _ _ _ _ ?_); conv => whnf) | skip)
        · exact fin
        · have hel : e < L := by omega
          have bb := hB.2 e hel
          have be := hx2.2 e hel
          have cs : ¬ (97 ≤ B e ∧ B e ≤ 122) := fun z => ce ⟨hel, by unfold sml; rw [decide_eq_true_eq]; exact z⟩
          rw [e11]
          refine ⟨(oi_in (by omega) (by omega)).mpr ⟨by omega, by omega⟩, ?_⟩
          conv => whnf
          rw [oi_nat (by omega) (by omega), Int.toNat_natCast, be]
          refine ⟨fun c2 => ?_, fun c2 => ?_⟩ <;> (try simp (disch := omega) only [oi_le, oi_lt, oi_eq, oi_lt0, oi_le0, oi_0lt, oi_0le, oi_eq0, oi_eq1, bI_eq0, bI_ne0, bI_eq1, decide_eq_true_eq, decide_eq_false_iff_not, lc_lt, lc_gt, lc_eq, lc_ge, lc_le, ol_lt, ol_eq, ne_eq, Int.not_lt, Int.not_le, Bool.not_eq_true, Bool.not_eq_false, Decidable.not_not, not_true_eq_false, not_false_eq_true, Bool.true_eq_false, Bool.false_eq_true] at c2) <;> (first | (exfalso; omega) | ((fail_if_success with_reducible refine hJ _ _ _ _ ?_); conv => whnf) | skip)
          · exact fin
          · rw [e11]
            refine ⟨(oi_in (by omega) (by omega)).mpr ⟨by omega, by omega⟩, ?_⟩
            conv => whnf
            rw [oi_nat (by omega) (by omega), Int.toNat_natCast, be]
            refine ⟨fun c3 => ?_, fun c3 => ?_⟩ <;> (try simp (disch := omega) only [oi_le, oi_lt, oi_eq, oi_lt0, oi_le0, oi_0lt, oi_0le, oi_eq0, oi_eq1, bI_eq0, bI_ne0, bI_eq1, decide_eq_true_eq, decide_eq_false_iff_not, lc_lt, lc_gt, lc_eq, lc_ge, lc_le, ol_lt, ol_eq, ne_eq, Int.not_lt, Int.not_le, Bool.not_eq_true, Bool.not_eq_false, Decidable.not_not, not_true_eq_false, not_false_eq_true, Bool.true_eq_false, Bool.false_eq_true] at c3) <;> (first | (exfalso; omega) | ((fail_if_success with_reducible refine hJ _ _ _ _ ?_); conv => whnf) | skip)
            exact fin
  refine loop L f _ _ _ (by omega) (by omega) (by omega) he.symm (ChA.wI ⟨rfl, rfl, by omega, by omega⟩) (by rw [wI_16]) (by rw [wI1, if_neg (by omega), h6]) (by rw [wI1, if_neg (by omega), h7]) (by rw [wI1, if_neg (by omega), h11]) h9 (fun _ => ?_) (fun j j1 j2 => by omega)
  rw [wdT_0]
  rfl
theorem s_readNumber {CALL : CT} (hC : RuleAll CALL) {r : Nat} {σ : AM} {K : AV → AM → Prop} {B : Nat → Int} {L f : Nat} (hx : TxC σ B L) (hB : BOk B L) (hf : f < L) (hs : sml (B f) = false) (hd : dig (B f) = true) (h6 : σ.1 3 0 6 = Int32.ofInt (f : Int)) (h7 : σ.1 3 0 7 = Int32.ofInt (-1)) (h8 : σ.1 3 0 8 = Int32.ofInt 0) (h11 : σ.1 3 0 11 = Int32.ofInt (f : Int)) (h9 : σ.2.1 3 0 9 = Int64.ofInt 0) (h : ∀ σ' : AM, TC σ' B L f → ChA tkS tkL σ σ' → K unset σ') : CALL (r + 1) n_Tape_readNumber [.inr (.inr (3, 0))] σ K := by
  refine r_Tape_readNumber hC (fun J hJ => ?_)
  have hL := hB.1
  have he : tokE B L f = rn' dig B L L f := by unfold tokE; rw [if_neg (by omega), if_neg (by rw [hs]; decide), if_pos hd]
  have kd : kdT B L f = if 4 < tokE B L f - f then 1 else 3 := by unfold kdT; rw [if_neg (by omega), if_neg (by rw [hs]; decide), if_pos hd]
  have eo := tokE_ok (B := B) (L := L) (f := f) (by omega)
  have kd2 : kdT B L f ≠ 2 := by rw [kd]; split <;> omega
  have kd4 : kdT B L f ≠ 4 := by rw [kd]; split <;> omega
  have kw : kwT B L f = -1 := if_neg kd2
  have nm : nmT B L f = 0 := if_neg (fun z => kd2 z.1)
  have at76 : ∀ σe : AM, ChA tkS tkL σ σe → σe.1 3 0 6 = Int32.ofInt (f : Int) → σe.1 3 0 7 = Int32.ofInt (-1) → σe.1 3 0 8 = Int32.ofInt (nuF B f (tokE B L f - f)) → σe.1 3 0 11 = Int32.ofInt ((tokE B L f : Nat) : Int) → σe.2.1 3 0 9 = Int64.ofInt 0 → J 76 [.inr (.inr (3, 0))] [] σe := by
    intro σe hc e6 e7 e8 e11 e9
    have fin : ∀ x : Int, x = kC (kdT B L f) → J 95 [.inr (.inr (3, 0))] [.inl (Int32.ofInt x), .inr (.inr (3, 0))] σe := by
      intro x hx'
      refine hJ _ _ _ _ ?_
      conv => whnf
      refine h _ ⟨by omega, by rw [wI_16, hx'], by rw [wI1, if_neg (by omega), e6], by rw [wI1, if_neg (by omega), e7, kw]; rfl, fun z => ?_, by rw [nm]; exact e9, by rw [wI1, if_neg (by omega), e11]⟩ (hc.tr (ChA.wI ⟨rfl, rfl, by omega, by omega⟩))
      rw [wI1, if_neg (by omega), e8, show vlT B L f = nuF B f (tokE B L f - f) from if_pos (by omega)]
    refine hJ _ _ _ _ ?_
    conv => whnf
    rw [e11, e6, oi_sub]
    refine ⟨fun c => ?_, fun c => ?_⟩ <;> (try simp (disch := omega) only [oi_le, oi_lt, oi_eq, oi_lt0, oi_le0, oi_0lt, oi_0le, oi_eq0, oi_eq1, bI_eq0, bI_ne0, bI_eq1, decide_eq_true_eq, decide_eq_false_iff_not, lc_lt, lc_gt, lc_eq, lc_ge, lc_le, ol_lt, ol_eq, ne_eq, Int.not_lt, Int.not_le, Bool.not_eq_true, Bool.not_eq_false, Decidable.not_not, not_true_eq_false, not_false_eq_true, Bool.true_eq_false, Bool.false_eq_true] at c) <;> (first | (exfalso; omega) | ((with_reducible refine hJ _ _ _ _ ?_); conv => whnf) | (conv => whnf))
    · exact fin 2 (by rw [kd, if_neg (by omega)]; rfl)
    · exact fin 4 (by rw [kd, if_pos (by omega)]; rfl)
  have loop : ∀ (d e : Nat) (σe : AM), L ≤ e + d → f ≤ e → e ≤ L → rn' dig B L d e = tokE B L f → ChA tkS tkL σ σe → σe.1 3 0 6 = Int32.ofInt (f : Int) → σe.1 3 0 7 = Int32.ofInt (-1) → σe.1 3 0 8 = Int32.ofInt (nuF B f (e - f)) → σe.1 3 0 11 = Int32.ofInt (e : Int) → σe.2.1 3 0 9 = Int64.ofInt 0 → J 0 [.inr (.inr (3, 0))] [] σe := by
    intro d
    induction d with
    | zero =>
      intro e σe h1 h2 h3 h4 hc e6 e7 e8 e11 e9
      rw [rn'] at h4
      have hx2 := hx.cha hc
      refine hJ _ _ _ _ ?_
      conv => whnf
      rw [e11, hx2.1]
      refine ⟨fun c => ?_, fun c => ?_⟩ <;> (try simp (disch := omega) only [oi_le, oi_lt, oi_eq, oi_lt0, oi_le0, oi_0lt, oi_0le, oi_eq0, oi_eq1, bI_eq0, bI_ne0, bI_eq1, decide_eq_true_eq, decide_eq_false_iff_not, lc_lt, lc_gt, lc_eq, lc_ge, lc_le, ol_lt, ol_eq, ne_eq, Int.not_lt, Int.not_le, Bool.not_eq_true, Bool.not_eq_false, Decidable.not_not, not_true_eq_false, not_false_eq_true, Bool.true_eq_false, Bool.false_eq_true] at c) <;> (first | (exfalso; omega) | ((fail_if_success with_reducible refine hJ _ _ _ _ ?_); conv => whnf) | skip)
      exact at76 σe hc e6 e7 (by rw [← h4]; exact e8) (by rw [e11, h4]) e9
    | succ d ih =>
      intro e σe h1 h2 h3 h4 hc e6 e7 e8 e11 e9
      rw [rn'] at h4
      have hx2 := hx.cha hc
      by_cases ce : e < L ∧ dig (B e) = true
      · rw [if_pos ce] at h4
        have cs := ce.2
        unfold dig at cs
        rw [decide_eq_true_eq] at cs
        have be := hx2.2 e ce.1
        refine hJ _ _ _ _ ?_
        conv => whnf
        rw [e11, hx2.1]
        refine ⟨fun c => ?_, fun c => ?_⟩ <;> (try simp (disch := omega) only [oi_le, oi_lt, oi_eq, oi_lt0, oi_le0, oi_0lt, oi_0le, oi_eq0, oi_eq1, bI_eq0, bI_ne0, bI_eq1, decide_eq_true_eq, decide_eq_false_iff_not, lc_lt, lc_gt, lc_eq, lc_ge, lc_le, ol_lt, ol_eq, ne_eq, Int.not_lt, Int.not_le, Bool.not_eq_true, Bool.not_eq_false, Decidable.not_not, not_true_eq_false, not_false_eq_true, Bool.true_eq_false, Bool.false_eq_true] at c) <;> (first | (exfalso; omega) | ((fail_if_success with_reducible refine hJ _ _ _ _ ?_); conv => whnf) | skip)
        rw [e11]
        refine ⟨(oi_in (by omega) (by omega)).mpr ⟨by omega, by omega⟩, ?_⟩
        conv => whnf
        rw [oi_nat (by omega) (by omega), Int.toNat_natCast, be]
        refine ⟨fun c2 => ?_, fun c2 => ?_⟩ <;> (try simp (disch := omega) only [oi_le, oi_lt, oi_eq, oi_lt0, oi_le0, oi_0lt, oi_0le, oi_eq0, oi_eq1, bI_eq0, bI_ne0, bI_eq1, decide_eq_true_eq, decide_eq_false_iff_not, lc_lt, lc_gt, lc_eq, lc_ge, lc_le, ol_lt, ol_eq, ne_eq, Int.not_lt, Int.not_le, Bool.not_eq_true, Bool.not_eq_false, Decidable.not_not, not_true_eq_false, not_false_eq_true, Bool.true_eq_false, Bool.false_eq_true] at c2) <;> (first | (exfalso; omega) | ((fail_if_success with_reducible refine hJ _ _ _ _ ?_); conv => whnf) | skip)
        rw [e11]
        refine ⟨(oi_in (by omega) (by omega)).mpr ⟨by omega, by omega⟩, ?_⟩
        conv => whnf
        rw [oi_nat (by omega) (by omega), Int.toNat_natCast, be]
        refine ⟨fun c3 => ?_, fun c3 => ?_⟩ <;> (try simp (disch := omega) only [oi_le, oi_lt, oi_eq, oi_lt0, oi_le0, oi_0lt, oi_0le, oi_eq0, oi_eq1, bI_eq0, bI_ne0, bI_eq1, decide_eq_true_eq, decide_eq_false_iff_not, lc_lt, lc_gt, lc_eq, lc_ge, lc_le, ol_lt, ol_eq, ne_eq, Int.not_lt, Int.not_le, Bool.not_eq_true, Bool.not_eq_false, Decidable.not_not, not_true_eq_false, not_false_eq_true, Bool.true_eq_false, Bool.false_eq_true] at c3) <;> (first | (exfalso; omega) | ((fail_if_success with_reducible refine hJ _ _ _ _ ?_); conv => whnf) | skip)
        rw [e11]
        refine ⟨(oi_in (by omega) (by omega)).mpr ⟨by omega, by omega⟩, ?_⟩
        conv => whnf
        rw [oi_nat (by omega) (by omega), Int.toNat_natCast, be, e8, oi_mul, oi_add, oi_sub, wI1, if_neg (by omega), e11, oi_succ]
        refine ih (e + 1) _ (by omega) (by omega) (by omega) h4 ((hc.tr (ChA.wI ⟨rfl, rfl, by omega, by omega⟩)).tr (ChA.wI ⟨rfl, rfl, by omega, by omega⟩)) (by rw [wI1, if_neg (by omega), wI1, if_neg (by omega), e6]) (by rw [wI1, if_neg (by omega), wI1, if_neg (by omega), e7]) ?_ (by rw [wI_16]) e9
        rw [wI1, if_neg (by omega), wI_16, show e + 1 - f = (e - f) + 1 by omega, nuF, show f + (e - f) = e by omega]
        congr 1
        omega
      · rw [if_neg ce] at h4
        have fin := at76 σe hc e6 e7 (by rw [← h4]; exact e8) (by rw [e11, h4]) e9
        refine hJ _ _ _ _ ?_
        conv => whnf
        rw [e11, hx2.1]
        refine ⟨fun c => ?_, fun c => ?_⟩ <;> (try simp (disch := omega) only [oi_le, oi_lt, oi_eq, oi_lt0, oi_le0, oi_0lt, oi_0le, oi_eq0, oi_eq1, bI_eq0, bI_ne0, bI_eq1, decide_eq_true_eq, decide_eq_false_iff_not, lc_lt, lc_gt, lc_eq, lc_ge, lc_le, ol_lt, ol_eq, ne_eq, Int.not_lt, Int.not_le, Bool.not_eq_true, Bool.not_eq_false, Decidable.not_not, not_true_eq_false, not_false_eq_true, Bool.true_eq_false, Bool.false_eq_true] at c) <;> (first | (exfalso; omega) | ((fail_if_success with_reducible refine hJ _ _ _ _ ?_); conv => whnf) | skip)
        · exact fin
        · have hel : e < L := by omega
          have bb := hB.2 e hel
          have be := hx2.2 e hel
          have cs : ¬ (48 ≤ B e ∧ B e ≤ 57) := fun z => ce ⟨hel, by unfold dig; rw [decide_eq_true_eq]; exact z⟩
          rw [e11]
          refine ⟨(oi_in (by omega) (by omega)).mpr ⟨by omega, by omega⟩, ?_⟩
          conv => whnf
          rw [oi_nat (by omega) (by omega), Int.toNat_natCast, be]
          refine ⟨fun c2 => ?_, fun c2 => ?_⟩ <;> (try simp (disch := omega) only [oi_le, oi_lt, oi_eq, oi_lt0, oi_le0, oi_0lt, oi_0le, oi_eq0, oi_eq1, bI_eq0, bI_ne0, bI_eq1, decide_eq_true_eq, decide_eq_false_iff_not, lc_lt, lc_gt, lc_eq, lc_ge, lc_le, ol_lt, ol_eq, ne_eq, Int.not_lt, Int.not_le, Bool.not_eq_true, Bool.not_eq_false, Decidable.not_not, not_true_eq_false, not_false_eq_true, Bool.true_eq_false, Bool.false_eq_true] at c2) <;> (first | (exfalso; omega) | ((fail_if_success with_reducible refine hJ _ _ _ _ ?_); conv => whnf) | skip)
          · exact fin
          · rw [e11]
            refine ⟨(oi_in (by omega) (by omega)).mpr ⟨by omega, by omega⟩, ?_⟩
            conv => whnf
            rw [oi_nat (by omega) (by omega), Int.toNat_natCast, be]
            refine ⟨fun c3 => ?_, fun c3 => ?_⟩ <;> (try simp (disch := omega) only [oi_le, oi_lt, oi_eq, oi_lt0, oi_le0, oi_0lt, oi_0le, oi_eq0, oi_eq1, bI_eq0, bI_ne0, bI_eq1, decide_eq_true_eq, decide_eq_false_iff_not, lc_lt, lc_gt, lc_eq, lc_ge, lc_le, ol_lt, ol_eq, ne_eq, Int.not_lt, Int.not_le, Bool.not_eq_true, Bool.not_eq_false, Decidable.not_not, not_true_eq_false, not_false_eq_true, Bool.true_eq_false, Bool.false_eq_true] at c3) <;> (first | (exfalso; omega) | ((fail_if_success with_reducible refine hJ _ _ _ _ ?_); conv => whnf) | skip)
            exact fin
  exact loop L f σ (by omega) (by omega) (by omega) he.symm ChA.rf h6 h7 (by rw [Nat.sub_self]; exact h8) h11 h9
theorem s_readSign {CALL : CT} (hC : RuleAll CALL) {r : Nat} {σ : AM} {K : AV → AM → Prop} {B : Nat → Int} {L f : Nat} (hx : TxC σ B L) (hB : BOk B L) (hf : f < L) (hs : sml (B f) = false) (hd : dig (B f) = false) (h6 : σ.1 3 0 6 = Int32.ofInt (f : Int)) (h7 : σ.1 3 0 7 = Int32.ofInt (-1)) (h11 : σ.1 3 0 11 = Int32.ofInt (f : Int)) (h9 : σ.2.1 3 0 9 = Int64.ofInt 0) (h : ∀ σ' : AM, TC σ' B L f → ChA tkS tkL σ σ' → K unset σ') : CALL (r + 1) n_Tape_readSign [.inr (.inr (3, 0))] σ K := by
  refine r_Tape_readSign hC (fun J hJ => ?_)
  refine hJ _ _ _ _ ?_
  conv => whnf
  have hL := hB.1
  have bb := hB.2 f hf
  have he : tokE B L f = f + 1 := by unfold tokE; rw [if_neg (by omega), if_neg (by rw [hs]; decide), if_neg (by rw [hd]; decide)]
  have kd : kdT B L f = if B f = 59 ∨ B f = 60 ∨ B f = 61 ∨ B f = 62 then 4 else 1 := by unfold kdT; rw [if_neg (by omega), if_neg (by rw [hs]; decide), if_neg (by rw [hd]; decide)]
  have kd2 : kdT B L f ≠ 2 := by rw [kd]; split <;> omega
  have kd3 : kdT B L f ≠ 3 := by rw [kd]; split <;> omega
  have kw : kwT B L f = -1 := if_neg kd2
  have nm : nmT B L f = 0 := if_neg (fun z => kd2 z.1)
  have at50 : ∀ (x : Int) (x2 : AV), x = kC (kdT B L f) → J 50 [.inr (.inr (3, 0)), .inl (Int32.ofInt (B f)), x2] [.inl (Int32.ofInt x), .inr (.inr (3, 0))] σ := by
    intro x x2 hx'
    refine hJ _ _ _ _ ?_
    conv => whnf
    rw [wI1, if_neg (by omega), wI1, if_neg (by omega), h11, oi_succ]
    refine h _ ⟨by omega, ?_, ?_, ?_, fun z => ?_, by rw [nm]; exact h9, by rw [wI_16, he]⟩ (((ChA.wI ⟨rfl, rfl, by omega, by omega⟩).tr (ChA.wI ⟨rfl, rfl, by omega, by omega⟩)).tr (ChA.wI ⟨rfl, rfl, by omega, by omega⟩))
    · rw [wI1, if_neg (by omega), wI1, if_neg (by omega), wI_16, hx']
    · rw [wI1, if_neg (by omega), wI1, if_neg (by omega), wI1, if_neg (by omega), h6]
    · rw [wI1, if_neg (by omega), wI1, if_neg (by omega), wI1, if_neg (by omega), h7, kw]
      rfl
    · rw [wI1, if_neg (by omega), wI_16, show vlT B L f = B f from if_neg kd3]
  have at39 : ∀ bo : Bool, bo = decide (B f = 59 ∨ B f = 60 ∨ B f = 61 ∨ B f = 62) → ∀ x2 : AV, J 39 [.inr (.inr (3, 0)), .inl (Int32.ofInt (B f)), x2] [.inl (bI bo)] σ := by
    intro bo hbo x2
    cases bo with
    | true =>
      have hbo := hbo.symm
      rw [decide_eq_true_eq] at hbo
      refine hJ _ _ _ _ ?_
      conv => whnf
      refine ⟨fun z => absurd z (by decide), fun _ => ?_⟩
      conv => whnf
      exact at50 3 _ (by rw [kd, if_pos hbo]; rfl)
    | false =>
      have hbo := hbo.symm
      rw [decide_eq_false_iff_not] at hbo
      refine hJ _ _ _ _ ?_
      conv => whnf
      refine ⟨fun _ => ?_, fun z => absurd rfl z⟩
      refine hJ _ _ _ _ ?_
      conv => whnf
      exact at50 4 _ (by rw [kd, if_neg hbo]; rfl)
  have yes : (B f = 59 ∨ B f = 60 ∨ B f = 61 ∨ B f = 62) → J 34 [.inr (.inr (3, 0)), .inl (Int32.ofInt (B f)), unset] [] σ := by
    intro z
    refine hJ _ _ _ _ ?_
    conv => whnf
    exact at39 true (decide_eq_true z).symm _
  rw [h11]
  refine ⟨(oi_in (by omega) (by omega)).mpr ⟨by omega, by omega⟩, ?_⟩
  conv => whnf
  rw [oi_nat (by omega) (by omega), Int.toNat_natCast, hx.2 f hf]
  refine ⟨fun c => ?_, fun c => ?_⟩ <;> (try simp (disch := omega) only [oi_le, oi_lt, oi_eq, oi_lt0, oi_le0, oi_0lt, oi_0le, oi_eq0, oi_eq1, bI_eq0, bI_ne0, bI_eq1, decide_eq_true_eq, decide_eq_false_iff_not, lc_lt, lc_gt, lc_eq, lc_ge, lc_le, ol_lt, ol_eq, ne_eq, Int.not_lt, Int.not_le, Bool.not_eq_true, Bool.not_eq_false, Decidable.not_not, not_true_eq_false, not_false_eq_true, Bool.true_eq_false, Bool.false_eq_true] at c) <;> (first | (exfalso; omega) | ((fail_if_success with_reducible refine hJ _ _ _ _ ?_); conv => whnf) | skip)
  · exact yes (by omega)
  · refine ⟨fun c2 => ?_, fun c2 => ?_⟩ <;> (try simp (disch := omega) only [oi_le, oi_lt, oi_eq, oi_lt0, oi_le0, oi_0lt, oi_0le, oi_eq0, oi_eq1, bI_eq0, bI_ne0, bI_eq1, decide_eq_true_eq, decide_eq_false_iff_not, lc_lt, lc_gt, lc_eq, lc_ge, lc_le, ol_lt, ol_eq, ne_eq, Int.not_lt, Int.not_le, Bool.not_eq_true, Bool.not_eq_false, Decidable.not_not, not_true_eq_false, not_false_eq_true, Bool.true_eq_false, Bool.false_eq_true] at c2) <;> (first | (exfalso; omega) | ((fail_if_success with_reducible refine hJ _ _ _ _ ?_); conv => whnf) | skip)
    · exact yes (by omega)
    · refine ⟨fun c3 => ?_, fun c3 => ?_⟩ <;> (try simp (disch := omega) only [oi_le, oi_lt, oi_eq, oi_lt0, oi_le0, oi_0lt, oi_0le, oi_eq0, oi_eq1, bI_eq0, bI_ne0, bI_eq1, decide_eq_true_eq, decide_eq_false_iff_not, lc_lt, lc_gt, lc_eq, lc_ge, lc_le, ol_lt, ol_eq, ne_eq, Int.not_lt, Int.not_le, Bool.not_eq_true, Bool.not_eq_false, Decidable.not_not, not_true_eq_false, not_false_eq_true, Bool.true_eq_false, Bool.false_eq_true] at c3) <;> (first | (exfalso; omega) | ((fail_if_success with_reducible refine hJ _ _ _ _ ?_); conv => whnf) | skip)
      · exact yes (by omega)
      · refine ⟨fun c4 => ?_, fun c4 => ?_⟩ <;> (try simp (disch := omega) only [oi_le, oi_lt, oi_eq, oi_lt0, oi_le0, oi_0lt, oi_0le, oi_eq0, oi_eq1, bI_eq0, bI_ne0, bI_eq1, decide_eq_true_eq, decide_eq_false_iff_not, lc_lt, lc_gt, lc_eq, lc_ge, lc_le, ol_lt, ol_eq, ne_eq, Int.not_lt, Int.not_le, Bool.not_eq_true, Bool.not_eq_false, Decidable.not_not, not_true_eq_false, not_false_eq_true, Bool.true_eq_false, Bool.false_eq_true] at c4) <;> (first | (exfalso; omega) | ((fail_if_success with_reducible refine hJ _ _ _ _ ?_); conv => whnf) | skip)
        · refine hJ _ _ _ _ ?_
          conv => whnf
          exact at39 false (decide_eq_false (by omega)).symm _
        · exact yes (by omega)
theorem s_advance {CALL : CT} (hC : RuleAll CALL) {r : Nat} {σ : AM} {K : AV → AM → Prop} {B : Nat → Int} {L e0 : Nat} (hx : TxC σ B L) (hB : BOk B L) (hk : KeyR σ) (he : e0 ≤ L) (h11 : σ.1 3 0 11 = Int32.ofInt (e0 : Int)) (h : ∀ σ' : AM, TC σ' B L (tokF B L e0) → ChA tkS tkL σ σ' → K unset σ') : CALL (r + 2) n_Tape_advance [.inr (.inr (3, 0))] σ K := by
  refine r_Tape_advance hC (fun J hJ => ?_)
  have hL := hB.1
  have fo := tokF_ok (B := B) he
  have at52 : ∀ (f : Nat) (σe : AM), f = tokF B L e0 → ChA tkS tkL σ σe → σe.1 3 0 11 = Int32.ofInt (f : Int) → J 52 [.inr (.inr (3, 0))] [] σe := by
    intro f σe hf hc e11
    have fl : f ≤ L := by rw [hf]; exact fo.2.1
    have hx2 := hx.cha hc
    have ret : ∀ σ2 : AM, TC σ2 B L f → ChA tkS tkL σ σ2 → J 168 [.inr (.inr (3, 0))] [] σ2 := by
      intro σ2 t2 c2
      refine hJ _ _ _ _ ?_
      conv => whnf
      exact h σ2 (by rw [← hf]; exact t2) c2
    refine hJ _ _ _ _ ?_
    conv => whnf
    rw [e11]
    generalize hτ : wI (wL (wI (wI σe 3 0 6 (Int32.ofInt (f : Int))) 3 0 7 (Int32.ofInt (-1))) 3 0 9 (Int64.ofInt ((0 : Fin 2).val : Int))) 3 0 8 (Int32.ofInt 0) = τ
    have t11 : τ.1 3 0 11 = Int32.ofInt (f : Int) := by
      rw [← hτ, wI1, if_neg (by omega)]
      show (wI (wI σe 3 0 6 (Int32.ofInt (f : Int))) 3 0 7 (Int32.ofInt (-1))).1 3 0 11 = _
      rw [wI1, if_neg (by omega), wI1, if_neg (by omega), e11]
    have t6 : τ.1 3 0 6 = Int32.ofInt (f : Int) := by
      rw [← hτ, wI1, if_neg (by omega)]
      show (wI (wI σe 3 0 6 (Int32.ofInt (f : Int))) 3 0 7 (Int32.ofInt (-1))).1 3 0 6 = _
      rw [wI1, if_neg (by omega), wI_16]
    have t7 : τ.1 3 0 7 = Int32.ofInt (-1) := by
      rw [← hτ, wI1, if_neg (by omega)]
      show (wI (wI σe 3 0 6 (Int32.ofInt (f : Int))) 3 0 7 (Int32.ofInt (-1))).1 3 0 7 = _
      rw [wI_16]
    have t8 : τ.1 3 0 8 = Int32.ofInt 0 := by rw [← hτ, wI_16]
    have t9 : τ.2.1 3 0 9 = Int64.ofInt 0 := by
      rw [← hτ]
      show (wL (wI (wI σe 3 0 6 (Int32.ofInt (f : Int))) 3 0 7 (Int32.ofInt (-1))) 3 0 9 (Int64.ofInt 0)).2.1 3 0 9 = _
      rw [wL1, if_pos ⟨rfl, rfl, rfl⟩]
    have tc : ChA tkS tkL σ τ := by
      refine hc.tr ⟨fun t q j z => ?_, fun t q j z => ?_, ?_⟩
      · unfold tkS at z
        rw [← hτ, wI1, if_neg (by omega)]
        show (wI (wI σe 3 0 6 (Int32.ofInt (f : Int))) 3 0 7 (Int32.ofInt (-1))).1 t q j = _
        rw [wI1, if_neg (by omega), wI1, if_neg (by omega)]
      · unfold tkL at z
        rw [← hτ]
        show (wL (wI (wI σe 3 0 6 (Int32.ofInt (f : Int))) 3 0 7 (Int32.ofInt (-1))) 3 0 9 (Int64.ofInt 0)).2.1 t q j = _
        rw [wL1, if_neg (by omega)]
        rfl
      · rw [← hτ]
        rfl
    clear hτ
    have hxτ := hx.cha tc
    rw [t11, hxτ.1]
    refine ⟨fun c => ?_, fun c => ?_⟩ <;> (try simp (disch := omega) only [oi_le, oi_lt, oi_eq, oi_lt0, oi_le0, oi_0lt, oi_0le, oi_eq0, oi_eq1, bI_eq0, bI_ne0, bI_eq1, decide_eq_true_eq, decide_eq_false_iff_not, lc_lt, lc_gt, lc_eq, lc_ge, lc_le, ol_lt, ol_eq, ne_eq, Int.not_lt, Int.not_le, Bool.not_eq_true, Bool.not_eq_false, Decidable.not_not, not_true_eq_false, not_false_eq_true, Bool.true_eq_false, Bool.false_eq_true] at c) <;> (first | (exfalso; omega) | ((fail_if_success with_reducible refine hJ _ _ _ _ ?_); conv => whnf) | skip)
    · have hfl : f < L := by omega
      have bb := hB.2 f hfl
      have bf := hxτ.2 f hfl
      have at164 : sml (B f) = false → dig (B f) = false → J 164 [.inr (.inr (3, 0))] [] τ := by
        intro z1 z2
        refine hJ _ _ _ _ ?_
        conv => whnf
        refine s_readSign hC hxτ hB hfl z1 z2 t6 t7 t11 t9 (fun σ2 k1 k2 => ?_)
        conv => whnf
        exact ret σ2 k1 (tc.tr k2)
      have at129 : sml (B f) = false → J 129 [.inr (.inr (3, 0))] [] τ := by
        intro z1
        refine hJ _ _ _ _ ?_
        conv => whnf
        rw [t11]
        refine ⟨(oi_in (by omega) (by omega)).mpr ⟨by omega, by omega⟩, ?_⟩
        conv => whnf
        rw [oi_nat (by omega) (by omega), Int.toNat_natCast, bf]
        refine ⟨fun c2 => ?_, fun c2 => ?_⟩ <;> (try simp (disch := omega) only [oi_le, oi_lt, oi_eq, oi_lt0, oi_le0, oi_0lt, oi_0le, oi_eq0, oi_eq1, bI_eq0, bI_ne0, bI_eq1, decide_eq_true_eq, decide_eq_false_iff_not, lc_lt, lc_gt, lc_eq, lc_ge, lc_le, ol_lt, ol_eq, ne_eq, Int.not_lt, Int.not_le, Bool.not_eq_true, Bool.not_eq_false, Decidable.not_not, not_true_eq_false, not_false_eq_true, Bool.true_eq_false, Bool.false_eq_true] at c2) <;> (first | (exfalso; omega) | ((fail_if_success with_reducible refine hJ _ _ _ _ ?_); conv => whnf) | skip)
        · exact at164 z1 (decide_eq_false (by omega))
        · rw [t11]
          refine ⟨(oi_in (by omega) (by omega)).mpr ⟨by omega, by omega⟩, ?_⟩
          conv => whnf
          rw [oi_nat (by omega) (by omega), Int.toNat_natCast, bf]
          refine ⟨fun c3 => ?_, fun c3 => ?_⟩ <;> (try simp (disch := omega) only [oi_le, oi_lt, oi_eq, oi_lt0, oi_le0, oi_0lt, oi_0le, oi_eq0, oi_eq1, bI_eq0, bI_ne0, bI_eq1, decide_eq_true_eq, decide_eq_false_iff_not, lc_lt, lc_gt, lc_eq, lc_ge, lc_le, ol_lt, ol_eq, ne_eq, Int.not_lt, Int.not_le, Bool.not_eq_true, Bool.not_eq_false, Decidable.not_not, not_true_eq_false, not_false_eq_true, Bool.true_eq_false, Bool.false_eq_true] at c3) <;> (first | (exfalso; omega) | ((fail_if_success with_reducible refine hJ _ _ _ _ ?_); conv => whnf) | skip)
          · exact at164 z1 (decide_eq_false (by omega))
          · refine s_readNumber hC hxτ hB hfl z1 (decide_eq_true (by omega)) t6 t7 t8 t11 t9 (fun σ2 k1 k2 => ?_)
            conv => whnf
            exact ret σ2 k1 (tc.tr k2)
      refine hJ _ _ _ _ ?_
      conv => whnf
      rw [t11]
      refine ⟨(oi_in (by omega) (by omega)).mpr ⟨by omega, by omega⟩, ?_⟩
      conv => whnf
      rw [oi_nat (by omega) (by omega), Int.toNat_natCast, bf]
      refine ⟨fun c2 => ?_, fun c2 => ?_⟩ <;> (try simp (disch := omega) only [oi_le, oi_lt, oi_eq, oi_lt0, oi_le0, oi_0lt, oi_0le, oi_eq0, oi_eq1, bI_eq0, bI_ne0, bI_eq1, decide_eq_true_eq, decide_eq_false_iff_not, lc_lt, lc_gt, lc_eq, lc_ge, lc_le, ol_lt, ol_eq, ne_eq, Int.not_lt, Int.not_le, Bool.not_eq_true, Bool.not_eq_false, Decidable.not_not, not_true_eq_false, not_false_eq_true, Bool.true_eq_false, Bool.false_eq_true] at c2) <;> (first | (exfalso; omega) | ((fail_if_success with_reducible refine hJ _ _ _ _ ?_); conv => whnf) | skip)
      · exact at129 (decide_eq_false (by omega))
      · rw [t11]
        refine ⟨(oi_in (by omega) (by omega)).mpr ⟨by omega, by omega⟩, ?_⟩
        conv => whnf
        rw [oi_nat (by omega) (by omega), Int.toNat_natCast, bf]
        refine ⟨fun c3 => ?_, fun c3 => ?_⟩ <;> (try simp (disch := omega) only [oi_le, oi_lt, oi_eq, oi_lt0, oi_le0, oi_0lt, oi_0le, oi_eq0, oi_eq1, bI_eq0, bI_ne0, bI_eq1, decide_eq_true_eq, decide_eq_false_iff_not, lc_lt, lc_gt, lc_eq, lc_ge, lc_le, ol_lt, ol_eq, ne_eq, Int.not_lt, Int.not_le, Bool.not_eq_true, Bool.not_eq_false, Decidable.not_not, not_true_eq_false, not_false_eq_true, Bool.true_eq_false, Bool.false_eq_true] at c3) <;> (first | (exfalso; omega) | ((fail_if_success with_reducible refine hJ _ _ _ _ ?_); conv => whnf) | skip)
        · exact at129 (decide_eq_false (by omega))
        · refine s_readWord hC hxτ hB (hk.cha tc) hfl (decide_eq_true (by omega)) t6 t7 t11 t9 (fun σ2 k1 k2 => ?_)
          conv => whnf
          exact ret σ2 k1 (tc.tr k2)
    · have fL : f = L := by omega
      have kd : kdT B L f = 0 := (kdT_bd B L f).2.2.mpr (by omega)
      have te : tokE B L f = f := if_pos (by omega)
      refine ret _ ⟨by omega, by rw [wI_16, kd]; rfl, by rw [wI1, if_neg (by omega), t6], by rw [wI1, if_neg (by omega), t7, show kwT B L f = -1 from if_neg (by omega)]; rfl, fun z => by omega, by rw [show nmT B L f = 0 from if_neg (by omega)]; exact t9, by rw [wI1, if_neg (by omega), t11, te]⟩ (tc.tr (ChA.wI ⟨rfl, rfl, by omega, by omega⟩))
  have loop : ∀ (d e : Nat) (σe : AM), L ≤ e + d → e ≤ L → rn' blk' B L d e = tokF B L e0 → ChA tkS tkL σ σe → σe.1 3 0 11 = Int32.ofInt (e : Int) → J 0 [.inr (.inr (3, 0))] [] σe := by
    intro d
    induction d with
    | zero =>
      intro e σe h1 h2 h3 hc e11
      rw [rn'] at h3
      have hx2 := hx.cha hc
      refine hJ _ _ _ _ ?_
      conv => whnf
      rw [e11, hx2.1]
      refine ⟨fun c => ?_, fun c => ?_⟩ <;> (try simp (disch := omega) only [oi_le, oi_lt, oi_eq, oi_lt0, oi_le0, oi_0lt, oi_0le, oi_eq0, oi_eq1, bI_eq0, bI_ne0, bI_eq1, decide_eq_true_eq, decide_eq_false_iff_not, lc_lt, lc_gt, lc_eq, lc_ge, lc_le, ol_lt, ol_eq, ne_eq, Int.not_lt, Int.not_le, Bool.not_eq_true, Bool.not_eq_false, Decidable.not_not, not_true_eq_false, not_false_eq_true, Bool.true_eq_false, Bool.false_eq_true] at c) <;> (first | (exfalso; omega) | ((fail_if_success with_reducible refine hJ _ _ _ _ ?_); conv => whnf) | skip)
      exact at52 e σe h3 hc e11
    | succ d ih =>
      intro e σe h1 h2 h3 hc e11
      rw [rn'] at h3
      have hx2 := hx.cha hc
      by_cases ce : e < L ∧ blk' (B e) = true
      · rw [if_pos ce] at h3
        have cs := ce.2
        unfold blk' at cs
        rw [decide_eq_true_eq] at cs
        have be := hx2.2 e ce.1
        have at39 : J 39 [.inr (.inr (3, 0))] [] σe := by
          refine hJ _ _ _ _ ?_
          conv => whnf
          rw [e11, oi_succ]
          exact ih (e + 1) _ (by omega) (by omega) h3 (hc.tr (ChA.wI ⟨rfl, rfl, by omega, by omega⟩)) wI_16
        refine hJ _ _ _ _ ?_
        conv => whnf
        rw [e11, hx2.1]
        refine ⟨fun c => ?_, fun c => ?_⟩ <;> (try simp (disch := omega) only [oi_le, oi_lt, oi_eq, oi_lt0, oi_le0, oi_0lt, oi_0le, oi_eq0, oi_eq1, bI_eq0, bI_ne0, bI_eq1, decide_eq_true_eq, decide_eq_false_iff_not, lc_lt, lc_gt, lc_eq, lc_ge, lc_le, ol_lt, ol_eq, ne_eq, Int.not_lt, Int.not_le, Bool.not_eq_true, Bool.not_eq_false, Decidable.not_not, not_true_eq_false, not_false_eq_true, Bool.true_eq_false, Bool.false_eq_true] at c) <;> (first | (exfalso; omega) | ((fail_if_success with_reducible refine hJ _ _ _ _ ?_); conv => whnf) | skip)
        rw [e11]
        refine ⟨(oi_in (by omega) (by omega)).mpr ⟨by omega, by omega⟩, ?_⟩
        conv => whnf
        rw [oi_nat (by omega) (by omega), Int.toNat_natCast, be]
        refine ⟨fun c2 => ?_, fun c2 => ?_⟩ <;> (try simp (disch := omega) only [oi_le, oi_lt, oi_eq, oi_lt0, oi_le0, oi_0lt, oi_0le, oi_eq0, oi_eq1, bI_eq0, bI_ne0, bI_eq1, decide_eq_true_eq, decide_eq_false_iff_not, lc_lt, lc_gt, lc_eq, lc_ge, lc_le, ol_lt, ol_eq, ne_eq, Int.not_lt, Int.not_le, Bool.not_eq_true, Bool.not_eq_false, Decidable.not_not, not_true_eq_false, not_false_eq_true, Bool.true_eq_false, Bool.false_eq_true] at c2) <;> (first | (exfalso; omega) | ((fail_if_success with_reducible refine hJ _ _ _ _ ?_); conv => whnf) | skip)
        · exact at39
        · rw [e11]
          refine ⟨(oi_in (by omega) (by omega)).mpr ⟨by omega, by omega⟩, ?_⟩
          conv => whnf
          rw [oi_nat (by omega) (by omega), Int.toNat_natCast, be]
          refine ⟨fun c3 => ?_, fun c3 => ?_⟩ <;> (try simp (disch := omega) only [oi_le, oi_lt, oi_eq, oi_lt0, oi_le0, oi_0lt, oi_0le, oi_eq0, oi_eq1, bI_eq0, bI_ne0, bI_eq1, decide_eq_true_eq, decide_eq_false_iff_not, lc_lt, lc_gt, lc_eq, lc_ge, lc_le, ol_lt, ol_eq, ne_eq, Int.not_lt, Int.not_le, Bool.not_eq_true, Bool.not_eq_false, Decidable.not_not, not_true_eq_false, not_false_eq_true, Bool.true_eq_false, Bool.false_eq_true] at c3) <;> (first | (exfalso; omega) | ((fail_if_success with_reducible refine hJ _ _ _ _ ?_); conv => whnf) | skip)
          exact at39
      · rw [if_neg ce] at h3
        have fin := at52 e σe h3 hc e11
        refine hJ _ _ _ _ ?_
        conv => whnf
        rw [e11, hx2.1]
        refine ⟨fun c => ?_, fun c => ?_⟩ <;> (try simp (disch := omega) only [oi_le, oi_lt, oi_eq, oi_lt0, oi_le0, oi_0lt, oi_0le, oi_eq0, oi_eq1, bI_eq0, bI_ne0, bI_eq1, decide_eq_true_eq, decide_eq_false_iff_not, lc_lt, lc_gt, lc_eq, lc_ge, lc_le, ol_lt, ol_eq, ne_eq, Int.not_lt, Int.not_le, Bool.not_eq_true, Bool.not_eq_false, Decidable.not_not, not_true_eq_false, not_false_eq_true, Bool.true_eq_false, Bool.false_eq_true] at c) <;> (first | (exfalso; omega) | ((fail_if_success with_reducible refine hJ _ _ _ _ ?_); conv => whnf) | skip)
        · exact fin
        · have hel : e < L := by omega
          have bb := hB.2 e hel
          have be := hx2.2 e hel
          have cs : ¬ (B e = 10 ∨ B e = 32) := fun z => ce ⟨hel, decide_eq_true z⟩
          rw [e11]
          refine ⟨(oi_in (by omega) (by omega)).mpr ⟨by omega, by omega⟩, ?_⟩
          conv => whnf
          rw [oi_nat (by omega) (by omega), Int.toNat_natCast, be]
          refine ⟨fun c2 => ?_, fun c2 => ?_⟩ <;> (try simp (disch := omega) only [oi_le, oi_lt, oi_eq, oi_lt0, oi_le0, oi_0lt, oi_0le, oi_eq0, oi_eq1, bI_eq0, bI_ne0, bI_eq1, decide_eq_true_eq, decide_eq_false_iff_not, lc_lt, lc_gt, lc_eq, lc_ge, lc_le, ol_lt, ol_eq, ne_eq, Int.not_lt, Int.not_le, Bool.not_eq_true, Bool.not_eq_false, Decidable.not_not, not_true_eq_false, not_false_eq_true, Bool.true_eq_false, Bool.false_eq_true] at c2) <;> (first | (exfalso; omega) | ((fail_if_success with_reducible refine hJ _ _ _ _ ?_); conv => whnf) | skip)
          rw [e11]
          refine ⟨(oi_in (by omega) (by omega)).mpr ⟨by omega, by omega⟩, ?_⟩
          conv => whnf
          rw [oi_nat (by omega) (by omega), Int.toNat_natCast, be]
          refine ⟨fun c3 => ?_, fun c3 => ?_⟩ <;> (try simp (disch := omega) only [oi_le, oi_lt, oi_eq, oi_lt0, oi_le0, oi_0lt, oi_0le, oi_eq0, oi_eq1, bI_eq0, bI_ne0, bI_eq1, decide_eq_true_eq, decide_eq_false_iff_not, lc_lt, lc_gt, lc_eq, lc_ge, lc_le, ol_lt, ol_eq, ne_eq, Int.not_lt, Int.not_le, Bool.not_eq_true, Bool.not_eq_false, Decidable.not_not, not_true_eq_false, not_false_eq_true, Bool.true_eq_false, Bool.false_eq_true] at c3) <;> (first | (exfalso; omega) | ((fail_if_success with_reducible refine hJ _ _ _ _ ?_); conv => whnf) | skip)
          exact fin
  exact loop L e0 σ (by omega) he rfl ChA.rf h11
