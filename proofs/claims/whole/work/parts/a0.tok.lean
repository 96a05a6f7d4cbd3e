/-! a text, token by token -/
def sml (c : Int) : Bool := decide (97 ≤ c ∧ c ≤ 122)
def dig (c : Int) : Bool := decide (48 ≤ c ∧ c ≤ 57)
def blk' (c : Int) : Bool := decide (c = 10 ∨ c = 32)
def rn' (p : Int → Bool) (B : Nat → Int) (L : Nat) : Nat → Nat → Nat
  | 0, e => e
  | k + 1, e => if e < L ∧ p (B e) = true then rn' p B L k (e + 1) else e
theorem rn_ok {p : Int → Bool} {B : Nat → Int} {L : Nat} : ∀ {k e : Nat}, L ≤ e + k → e ≤ rn' p B L k e ∧ (e ≤ L → rn' p B L k e ≤ L) ∧ (∀ j, e ≤ j → j < rn' p B L k e → p (B j) = true) ∧ (rn' p B L k e < L → p (B (rn' p B L k e)) = false)
  | 0, e, h => ⟨Nat.le_refl _, fun z => z, fun j h1 h2 => by rw [rn'] at h2; omega, fun z => by rw [rn'] at z; omega⟩
  | k + 1, e, h => by
    rw [rn']
    by_cases c : e < L ∧ p (B e) = true
    · rw [if_pos c]
      obtain ⟨h1, h2, h3, h4⟩ := rn_ok (p := p) (B := B) (L := L) (k := k) (e := e + 1) (by omega)
      refine ⟨by omega, fun _ => h2 (by omega), fun j j1 j2 => ?_, h4⟩
      by_cases ej : j = e
      · rw [ej]; exact c.2
      · exact h3 j (by omega) j2
    · rw [if_neg c]
      refine ⟨Nat.le_refl _, fun z => z, fun j j1 j2 => by omega, fun z => ?_⟩
      cases hp : p (B e) with
      | true => exact absurd ⟨z, hp⟩ c
      | false => rfl
theorem rn_gt {p : Int → Bool} {B : Nat → Int} {L e : Nat} (h1 : e < L) (h2 : p (B e) = true) : e < rn' p B L L e := by
  obtain ⟨k, rfl⟩ : ∃ k, L = k + 1 := ⟨L - 1, by omega⟩
  rw [rn', if_pos ⟨h1, h2⟩]
  have := (rn_ok (p := p) (B := B) (L := k + 1) (k := k) (e := e + 1) (by omega)).1
  omega
def tokF (B : Nat → Int) (L e0 : Nat) : Nat := rn' blk' B L L e0
def tokE (B : Nat → Int) (L f : Nat) : Nat := if L ≤ f then f else if sml (B f) then rn' sml B L L f else if dig (B f) then rn' dig B L L f else f + 1
/-- END 0, BAD 1, WORD 2, NUMBER 3, SIGN 4 -/
def kdT (B : Nat → Int) (L f : Nat) : Int := if L ≤ f then 0 else if sml (B f) then 2 else if dig (B f) then (if 4 < tokE B L f - f then 1 else 3) else if B f = 59 ∨ B f = 60 ∨ B f = 61 ∨ B f = 62 then 4 else 1
def kC (k : Int) : Int := if k = 0 then 0 else if k = 1 then 4 else k - 1
def wdT (B : Nat → Int) (f e : Nat) : List Nat := (List.range (e - f)).map (fun i => (B (f + i)).toNat)
def nuF (B : Nat → Int) (f : Nat) : Nat → Int
  | 0 => 0
  | i + 1 => 10 * nuF B f i + (B (f + i) - 48)
def vlT (B : Nat → Int) (L f : Nat) : Int := if kdT B L f = 3 then nuF B f (tokE B L f - f) else B f
def keyM : List (List Nat) := [[116,117,114,110],[111,100,100,115],[116,111,112,105,99],[109,111,110,107],[102,111,108,108,111,119,115],[114,111,115,116,101,114],[104,101,97,114,115],[99,111,115,116],[98,114,101,97,116,104],[114,101,115,116],[97,115,108,101,101,112],[109,105,110,117,116,101],[99,104,97,110,103,101],[119,97,107,101],[115,108,101,101,112],[97,110,121],[119,104,101,110],[108,111,111,112],[101,110,100],[115,116,111,112],[115,105,108,101,110,116],[108,97,115,116],[112,97,117,115,101,100]]
def kwI (w : List Nat) : Option Nat := firstF (fun n => decide (keyM.getD n [] = w)) 23 0
/-- the reference's number of a word, or -1 -/
def kwT (B : Nat → Int) (L f : Nat) : Int := if kdT B L f = 2 then opI (kwI (wdT B f (tokE B L f))) else -1
def kmL : List Int := [0, 1, 2, 4, 8, 9, 10, 3, 5, 6, 7, 11, 12, 13, 14, 15, 16, 20, 21, 22, 17, 18, 19]
/-- the class's number of a word -/
def kmC (k : Int) : Int := if k < 0 then -1 else kmL.getD k.toNat (-1)
def isNm (B : Nat → Int) (L f : Nat) : Bool := decide (kdT B L f = 2 ∧ tokE B L f - f ≤ 8 ∧ kwT B L f = -1)
def BOk (B : Nat → Int) (L : Nat) : Prop := L ≤ 900 ∧ ∀ j, j < L → 0 ≤ B j ∧ B j ≤ 255
theorem tokF_ok {B : Nat → Int} {L e0 : Nat} (h : e0 ≤ L) : e0 ≤ tokF B L e0 ∧ tokF B L e0 ≤ L ∧ (tokF B L e0 < L → blk' (B (tokF B L e0)) = false) := by
  have := rn_ok (p := blk') (B := B) (L := L) (k := L) (e := e0) (by omega)
  exact ⟨this.1, this.2.1 h, this.2.2.2⟩
theorem tokE_ok {B : Nat → Int} {L f : Nat} (h : f ≤ L) : f ≤ tokE B L f ∧ tokE B L f ≤ L ∧ (f < L → f < tokE B L f) := by
  unfold tokE
  by_cases c : L ≤ f
  · rw [if_pos c]; omega
  · rw [if_neg c]
    by_cases c2 : sml (B f) = true
    · rw [if_pos c2]
      have := rn_ok (p := sml) (B := B) (L := L) (k := L) (e := f) (by omega)
      have := rn_gt (p := sml) (B := B) (L := L) (e := f) (by omega) c2
      omega
    · rw [if_neg c2]
      by_cases c3 : dig (B f) = true
      · rw [if_pos c3]
        have := rn_ok (p := dig) (B := B) (L := L) (k := L) (e := f) (by omega)
        have := rn_gt (p := dig) (B := B) (L := L) (e := f) (by omega) c3
        omega
      · rw [if_neg c3]; omega
theorem kdT_bd (B : Nat → Int) (L f : Nat) : 0 ≤ kdT B L f ∧ kdT B L f ≤ 4 ∧ (kdT B L f = 0 ↔ L ≤ f) := by
  unfold kdT
  by_cases c : L ≤ f
  · rw [if_pos c]; exact ⟨by omega, by omega, fun _ => c, fun _ => rfl⟩
  · rw [if_neg c]
    by_cases c2 : sml (B f) = true
    · rw [if_pos c2]; exact ⟨by omega, by omega, fun z => by omega, fun z => absurd z c⟩
    · rw [if_neg c2]
      by_cases c3 : dig (B f) = true
      · rw [if_pos c3]
        by_cases c4 : 4 < tokE B L f - f
        · rw [if_pos c4]; exact ⟨by omega, by omega, fun z => by omega, fun z => absurd z c⟩
        · rw [if_neg c4]; exact ⟨by omega, by omega, fun z => by omega, fun z => absurd z c⟩
      · rw [if_neg c3]
        by_cases c4 : B f = 59 ∨ B f = 60 ∨ B f = 61 ∨ B f = 62
        · rw [if_pos c4]; exact ⟨by omega, by omega, fun z => by omega, fun z => absurd z c⟩
        · rw [if_neg c4]; exact ⟨by omega, by omega, fun z => by omega, fun z => absurd z c⟩
theorem kwI_lt {w : List Nat} {n : Nat} (h : kwI w = some n) : n < 23 ∧ keyM.getD n [] = w := by
  have := firstF_lt h
  exact ⟨by omega, of_decide_eq_true this.2⟩
theorem kwT_bd (B : Nat → Int) (L f : Nat) : -1 ≤ kwT B L f ∧ kwT B L f ≤ 22 := by
  unfold kwT
  split
  · cases e : kwI (wdT B f (tokE B L f)) with
    | none => exact ⟨by decide, by decide⟩
    | some n =>
      have := (kwI_lt e).1
      exact ⟨by show (-1 : Int) ≤ (n : Int); omega, by show (n : Int) ≤ 22; omega⟩
  · omega
theorem kmC_bd : ∀ n : Fin 23, 0 ≤ kmC ((n.val : Nat) : Int) ∧ kmC ((n.val : Nat) : Int) ≤ 22 := by decide +kernel
theorem kmC_inj : ∀ n m : Fin 23, kmC ((n.val : Nat) : Int) = kmC ((m.val : Nat) : Int) → n = m := by decide +kernel
theorem kmC_eq {k : Int} (h1 : -1 ≤ k) (h2 : k ≤ 22) {n : Nat} (hn : n < 23) : kmC k = kmC (n : Int) ↔ k = (n : Int) := by
  constructor
  · intro e
    by_cases c : k < 0
    · have := kmC_bd ⟨n, hn⟩
      have e2 : kmC k = -1 := if_pos c
      rw [e2] at e
      have this : 0 ≤ kmC (n : Int) := this.1
      omega
    · obtain ⟨m, rfl⟩ : ∃ m : Nat, k = (m : Int) := ⟨k.toNat, by omega⟩
      have := kmC_inj ⟨m, by omega⟩ ⟨n, hn⟩ e
      rw [Fin.ext_iff] at this
      have this : m = n := this
      rw [this]
  · intro e; rw [e]
theorem kmC_neg {k : Int} (h1 : -1 ≤ k) (h2 : k ≤ 22) : kmC k = -1 ↔ k = -1 := by
  constructor
  · intro e
    by_cases c : k < 0
    · omega
    · obtain ⟨m, rfl⟩ : ∃ m : Nat, k = (m : Int) := ⟨k.toNat, by omega⟩
      have this : 0 ≤ kmC (m : Int) := (kmC_bd ⟨m, by omega⟩).1
      omega
  · intro e; rw [e]; decide
theorem wdT_s (B : Nat → Int) {f e : Nat} (h : f ≤ e) : wdT B f (e + 1) = wdT B f e ++ [(B e).toNat] := by
  unfold wdT
  rw [show e + 1 - f = (e - f) + 1 by omega, List.range_succ, List.map_append, List.map_cons, List.map_nil, show f + (e - f) = e by omega]
theorem wdT_len (B : Nat → Int) (f e : Nat) : (wdT B f e).length = e - f := by unfold wdT; rw [List.length_map, List.length_range]
theorem wdT_0 (B : Nat → Int) (f : Nat) : wdT B f f = [] := by unfold wdT; rw [Nat.sub_self]; rfl
theorem wdT_ok {B : Nat → Int} {L f : Nat} (hk : kdT B L f = 2) (h8 : tokE B L f - f ≤ 8) (hf : f ≤ L) : WordOk (wdT B f (tokE B L f)) := by
  have hl : ¬ L ≤ f := fun z => by have := (kdT_bd B L f).2.2.mpr z; omega
  have hs : sml (B f) = true := by
    cases e : sml (B f) with
    | true => rfl
    | false =>
      unfold kdT at hk
      rw [if_neg hl, e, if_neg (by decide)] at hk
      split at hk
      · split at hk <;> omega
      · split at hk <;> omega
  have he : tokE B L f = rn' sml B L L f := by unfold tokE; rw [if_neg hl, if_pos hs]
  have ro := rn_ok (p := sml) (B := B) (L := L) (k := L) (e := f) (by omega)
  have eo := tokE_ok (B := B) hf
  refine ⟨fun z => ?_, by rw [wdT_len]; exact h8, fun c hc => ?_⟩
  · have := congrArg List.length z
    rw [wdT_len, List.length_nil] at this
    omega
  · unfold wdT at hc
    obtain ⟨i, hi, rfl⟩ := List.mem_map.mp hc
    rw [List.mem_range] at hi
    have := ro.2.2.1 (f + i) (by omega) (by omega)
    unfold sml at this
    rw [decide_eq_true_eq] at this
    omega
theorem enc5_s (w : List Nat) (c : Nat) : enc5 (w ++ [c]) = enc5 w * 32 + (c - 96) := by unfold enc5; rw [List.foldl_append]; rfl
theorem enc8_s (w : List Nat) (c : Nat) : enc8 (w ++ [c]) = enc8 w * 256 + c := by unfold enc8; rw [List.foldl_append]; rfl
theorem rev_ind {P : List Nat → Prop} (h0 : P []) (hs : ∀ w c, P w → P (w ++ [c])) : ∀ w, P w := by
  intro w
  have : ∀ v : List Nat, P v.reverse := by
    intro v
    induction v with
    | nil => exact h0
    | cons c v ih => rw [List.reverse_cons]; exact hs _ _ ih
  have := this w.reverse
  rw [List.reverse_reverse] at this
  exact this
theorem snoc_ok {w : List Nat} {c : Nat} (h : ∀ x, x ∈ w ++ [c] → 97 ≤ x ∧ x ≤ 122) : (∀ x, x ∈ w → 97 ≤ x ∧ x ≤ 122) ∧ 97 ≤ c ∧ c ≤ 122 := ⟨fun x hx => h x (List.mem_append.mpr (Or.inl hx)), h c (List.mem_append.mpr (Or.inr (List.mem_singleton.mpr rfl)))⟩
theorem enc_inj (f : List Nat → Nat) (b o : Nat) (hf0 : f [] = 0) (hb : 0 < b) (hfs : ∀ w c, f (w ++ [c]) = f w * b + (c - o)) (hlo : o < 97) (hhi : 122 - o < b) : ∀ w v : List Nat, (∀ x, x ∈ w → 97 ≤ x ∧ x ≤ 122) → (∀ x, x ∈ v → 97 ≤ x ∧ x ≤ 122) → f w = f v → w = v := by
  intro w
  refine rev_ind (P := fun w => ∀ v : List Nat, (∀ x, x ∈ w → 97 ≤ x ∧ x ≤ 122) → (∀ x, x ∈ v → 97 ≤ x ∧ x ≤ 122) → f w = f v → w = v) ?_ ?_ w
  · intro v _
    refine rev_ind (P := fun v => (∀ x, x ∈ v → 97 ≤ x ∧ x ≤ 122) → f [] = f v → [] = v) (fun _ _ => rfl) (fun v c _ hv e => ?_) v
    have := snoc_ok hv
    rw [hf0, hfs] at e
    omega
  · intro w c ih v hw
    refine rev_ind (P := fun v => (∀ x, x ∈ v → 97 ≤ x ∧ x ≤ 122) → f (w ++ [c]) = f v → w ++ [c] = v) (fun _ e => ?_) (fun v d _ hv e => ?_) v
    · have := snoc_ok hw
      rw [hf0, hfs] at e
      omega
    · have h1 := snoc_ok hw
      have h2 := snoc_ok hv
      rw [hfs, hfs] at e
      have e1 : (f w * b + (c - o)) % b = (f v * b + (d - o)) % b := by rw [e]
      rw [Nat.mul_comm, Nat.mul_add_mod, Nat.mul_comm (f v), Nat.mul_add_mod, Nat.mod_eq_of_lt (by omega), Nat.mod_eq_of_lt (by omega)] at e1
      have e2 : c = d := by omega
      subst e2
      have e3 : f w * b = f v * b := by omega
      rw [ih v h1.1 h2.1 (Nat.eq_of_mul_eq_mul_right hb e3)]
theorem enc5_inj {w v : List Nat} (hw : ∀ x, x ∈ w → 97 ≤ x ∧ x ≤ 122) (hv : ∀ x, x ∈ v → 97 ≤ x ∧ x ≤ 122) (e : enc5 w = enc5 v) : w = v := enc_inj enc5 32 96 rfl (by omega) enc5_s (by omega) (by omega) w v hw hv e
theorem enc8_inj {w v : List Nat} (hw : ∀ x, x ∈ w → 97 ≤ x ∧ x ≤ 122) (hv : ∀ x, x ∈ v → 97 ≤ x ∧ x ≤ 122) (e : enc8 w = enc8 v) : w = v := enc_inj enc8 256 0 rfl (by omega) (fun w c => by rw [enc8_s]; rfl) (by omega) (by omega) w v hw hv e
theorem enc_lt (f : List Nat → Nat) (b o : Nat) (hf0 : f [] = 0) (hfs : ∀ w c, f (w ++ [c]) = f w * b + (c - o)) (hhi : 122 - o < b) : ∀ w : List Nat, (∀ x, x ∈ w → 97 ≤ x ∧ x ≤ 122) → f w < b ^ w.length := by
  refine rev_ind (fun _ => by rw [hf0]; exact Nat.one_pos) (fun w c ih hw => ?_)
  have h1 := snoc_ok hw
  have := ih h1.1
  rw [hfs, List.length_append, List.length_singleton, Nat.pow_succ]
  have h2 : (f w + 1) * b ≤ b ^ w.length * b := Nat.mul_le_mul_right b this
  rw [Nat.add_mul, Nat.one_mul] at h2
  omega
theorem enc5_lt {w : List Nat} (h : WordOk w) : enc5 w < 1099511627776 := by
  have h1 := enc_lt enc5 32 96 rfl enc5_s (by omega) w h.2.2
  have h2 : 32 ^ w.length ≤ 32 ^ 8 := Nat.pow_le_pow_right (by omega) h.2.1
  have h3 : (32 : Nat) ^ 8 = 1099511627776 := by decide
  omega
theorem enc5_pos {w : List Nat} (h : WordOk w) : 0 < enc5 w := by
  apply Nat.pos_of_ne_zero
  intro z
  exact h.1 (enc5_inj h.2.2 (fun x hx => absurd hx List.not_mem_nil) z)
