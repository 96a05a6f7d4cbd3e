/-! the world: which cells of the heap a memory stands for -/
def cv (ad : Nat × Nat → Nat) : AV → Value
  | .inl x => .int x
  | .inr (.inl x) => .long x
  | .inr (.inr q) => .ref (ad q)
/-- a reference that there is -/
def vv : AV → Prop
  | .inr (.inr (t, i)) => (t = 0 ∧ i = 0) ∨ (t < 67 ∧ i < cn t) ∨ (t = 67 ∧ i < 2)
  | _ => True
def AllV (l : List AV) : Prop := ∀ v ∈ l, vv v
theorem AllV.cons {v : AV} {l : List AV} (h1 : vv v) (h2 : AllV l) : AllV (v :: l) := fun w hw => (List.mem_cons.mp hw).elim (fun e => e ▸ h1) (h2 w)
theorem AllV.hd {v : AV} {l : List AV} (h : AllV (v :: l)) : vv v := h v List.mem_cons_self
theorem AllV.tl {v : AV} {l : List AV} (h : AllV (v :: l)) : AllV l := fun w hw => h w (List.mem_cons_of_mem _ hw)
theorem AllV.nil : AllV [] := fun _ h => absurd h List.not_mem_nil
def fval (ad : Nat × Nat → Nat) (σ : AM) (t i k : Nat) : Nat × Nat × Nat → Value
  | (0, _, _) => .int (σ.1 t i k)
  | (1, _, _) => .long (σ.2.1 t i k)
  | (2, tg, _) => .ref (ad (tg, i))
  | (3, tg, n) => if σ.2.2 t i k < n then .ref (ad (tg, σ.2.2 t i k)) else .null
  | (4, tg, d) => .ref (ad (tg, d))
  | _ => .int (σ.1 t i k)
def flds (ad : Nat × Nat → Nat) (σ : AM) (t i c : Nat) : List Value := (List.range (fkl c).length).map (fun k => fval ad σ t i k ((fkl c).getD k (9, 0, 0)))
def cellOf (ad : Nat × Nat → Nat) (cA : Nat → ClassId) (σ : AM) (q : Nat × Nat) : va_E := match sh q.1 with
  | (0, c) => .inr (c, flds ad σ q.1 q.2 c)
  | (1, n) => .inl (cA 1, n, .inl (σ.1 q.1 q.2))
  | (2, n) => .inl (cA 2, n, .inr (.inl (σ.2.1 q.1 q.2)))
  | (3, n) => .inl (cA 3, n, .inl (σ.1 q.1 q.2))
  | (4, n) => .inl (cA 4, n, .inl (σ.1 q.1 q.2))
  | (5, n) => .inl (cA (rkt q.1), n, .inr (.inr (.inr (.inr (fun x => some (ad ((elt q.1).1, (elt q.1).2 + x)))))))
  | (_, _) => .inl (cA 1, 0, .inl (fun _ => 0))
def wsA (ad : Nat × Nat → Nat) (cA : Nat → ClassId) (σ : AM) : va_W := VL.map (fun q => (ad q, cellOf ad cA σ q))
def tysA (cA : Nat → ClassId) : List (ClassId × FieldType) := [(cA 1, .int), (cA 2, .long), (cA 3, .byte), (cA 4, .boolean), (cA 5, .object RX10), (cA 6, .object RX3), (cA 7, .object RX1)]
def AA (ad : Nat × Nat → Nat) : Nat → Prop := fun a => ∃ q, q ∈ VL ∧ a = ad q
def AdOk (ad : Nat × Nat → Nat) : Prop := ∀ q, q ∈ VL → ∀ q', q' ∈ VL → ad q = ad q' → q = q'
theorem VL_mem {t i : Nat} (ht : t < 67) (hi : i < cn t) : (t, i) ∈ VL := List.mem_of_getElem? (VL_at t ht i hi)
theorem VL_of {k : Nat} {q : Nat × Nat} (h : VL[k]? = some q) : q.1 < 67 ∧ q.2 < cn q.1 ∧ k = ps q.1 + q.2 := by
  have hl : k < VL.length := (List.getElem?_eq_some_iff.mp h).1
  have hd : VL.getD k (0, 0) = q := by rw [List.getD_eq_getElem?_getD, h]; rfl
  have h1 := VL_inv k hl
  rw [hd] at h1
  exact h1
theorem wsA_at {ad : Nat × Nat → Nat} {cA : Nat → ClassId} {σ : AM} {t i : Nat} (ht : t < 67) (hi : i < cn t) : (wsA ad cA σ)[ps t + i]? = some (ad (t, i), cellOf ad cA σ (t, i)) := by
  rw [wsA, List.getElem?_map, VL_at t ht i hi]
  rfl
theorem cellOf_congr {ad : Nat × Nat → Nat} {cA : Nat → ClassId} {σ σ' : AM} {q : Nat × Nat} (h1 : σ.1 q.1 q.2 = σ'.1 q.1 q.2) (h2 : σ.2.1 q.1 q.2 = σ'.2.1 q.1 q.2) (h3 : σ.2.2 q.1 q.2 = σ'.2.2 q.1 q.2) : cellOf ad cA σ q = cellOf ad cA σ' q := by
  have hf : ∀ c, flds ad σ q.1 q.2 c = flds ad σ' q.1 q.2 c := by
    intro c
    unfold flds
    congr 1
    funext k
    unfold fval
    rw [h1, h2, h3]
  unfold cellOf
  rw [h1, h2]
  split <;> first | rfl | rw [hf]
/-- one cell is another: the list of cells with that one set -/
theorem wsA_set {ad : Nat × Nat → Nat} {cA : Nat → ClassId} {σ σ' : AM} {t i : Nat} {e : va_E} (ht : t < 67) (hi : i < cn t) (he : cellOf ad cA σ' (t, i) = e) (hne : ∀ q : Nat × Nat, q ≠ (t, i) → σ.1 q.1 q.2 = σ'.1 q.1 q.2 ∧ σ.2.1 q.1 q.2 = σ'.2.1 q.1 q.2 ∧ σ.2.2 q.1 q.2 = σ'.2.2 q.1 q.2) : (wsA ad cA σ).set (ps t + i) (ad (t, i), e) = wsA ad cA σ' := by
  have hl : ps t + i < (wsA ad cA σ).length := (List.getElem?_eq_some_iff.mp (wsA_at (ad := ad) (cA := cA) (σ := σ) ht hi)).1
  apply List.ext_getElem?
  intro k
  by_cases hk : k = ps t + i
  · subst hk
    rw [List.getElem?_set_self hl, wsA_at ht hi, he]
  · rw [List.getElem?_set_ne (Ne.symm hk), wsA, wsA, List.getElem?_map, List.getElem?_map]
    cases hq : VL[k]? with
    | none => rfl
    | some q =>
      have hqk := VL_of hq
      have hqn : q ≠ (t, i) := by
        rintro rfl
        exact hk hqk.2.2
      obtain ⟨h1, h2, h3⟩ := hne q hqn
      show some (ad q, cellOf ad cA σ q) = some (ad q, cellOf ad cA σ' q)
      rw [cellOf_congr h1 h2 h3]
theorem wsA_D {ad : Nat × Nat → Nat} {cA : Nat → ClassId} {σ : AM} (h : AdOk ad) : va_D (AA ad) (wsA ad cA σ) := by
  refine ⟨fun i j p q hp hq hpq => ?_, fun k q hk => ?_⟩
  · rw [wsA, List.getElem?_map] at hp hq
    cases h1 : VL[i]? with
    | none => rw [h1] at hp; cases hp
    | some a =>
      cases h2 : VL[j]? with
      | none => rw [h2] at hq; cases hq
      | some b =>
        rw [h1] at hp
        rw [h2] at hq
        cases hp
        cases hq
        have e := h a (List.mem_of_getElem? h1) b (List.mem_of_getElem? h2) hpq
        subst e
        rw [(VL_of h1).2.2, (VL_of h2).2.2]
  · rw [wsA, List.getElem?_map] at hk
    cases h1 : VL[k]? with
    | none => rw [h1] at hk; cases hk
    | some a =>
      rw [h1] at hk
      cases hk
      exact ⟨a, List.mem_of_getElem? h1, rfl⟩
theorem pr_ne {t i : Nat} {q : Nat × Nat} (h : q ≠ (t, i)) : ¬ (q.1 = t ∧ q.2 = i) := fun e => h (Prod.ext e.1 e.2)
theorem wI_ne (σ : AM) (t i k : Nat) (x : Int32) : ∀ q : Nat × Nat, q ≠ (t, i) → σ.1 q.1 q.2 = (wI σ t i k x).1 q.1 q.2 ∧ σ.2.1 q.1 q.2 = (wI σ t i k x).2.1 q.1 q.2 ∧ σ.2.2 q.1 q.2 = (wI σ t i k x).2.2 q.1 q.2 := by
  intro q hq
  refine ⟨?_, rfl, rfl⟩
  funext j
  show _ = if q.1 = t ∧ q.2 = i ∧ j = k then x else σ.1 q.1 q.2 j
  rw [if_neg (fun e => pr_ne hq ⟨e.1, e.2.1⟩)]
theorem wL_ne (σ : AM) (t i k : Nat) (x : Int64) : ∀ q : Nat × Nat, q ≠ (t, i) → σ.1 q.1 q.2 = (wL σ t i k x).1 q.1 q.2 ∧ σ.2.1 q.1 q.2 = (wL σ t i k x).2.1 q.1 q.2 ∧ σ.2.2 q.1 q.2 = (wL σ t i k x).2.2 q.1 q.2 := by
  intro q hq
  refine ⟨rfl, ?_, rfl⟩
  funext j
  show _ = if q.1 = t ∧ q.2 = i ∧ j = k then x else σ.2.1 q.1 q.2 j
  rw [if_neg (fun e => pr_ne hq ⟨e.1, e.2.1⟩)]
theorem wR_ne (σ : AM) (t i k : Nat) (x : Nat) : ∀ q : Nat × Nat, q ≠ (t, i) → σ.1 q.1 q.2 = (wR σ t i k x).1 q.1 q.2 ∧ σ.2.1 q.1 q.2 = (wR σ t i k x).2.1 q.1 q.2 ∧ σ.2.2 q.1 q.2 = (wR σ t i k x).2.2 q.1 q.2 := by
  intro q hq
  refine ⟨rfl, rfl, ?_⟩
  funext j
  show _ = if q.1 = t ∧ q.2 = i ∧ j = k then x else σ.2.2 q.1 q.2 j
  rw [if_neg (fun e => pr_ne hq ⟨e.1, e.2.1⟩)]
theorem cpI_ne (σ : AM) (t0 i0 t i sp dp n : Nat) : ∀ q : Nat × Nat, q ≠ (t, i) → σ.1 q.1 q.2 = (cpI σ t0 i0 t i sp dp n).1 q.1 q.2 ∧ σ.2.1 q.1 q.2 = (cpI σ t0 i0 t i sp dp n).2.1 q.1 q.2 ∧ σ.2.2 q.1 q.2 = (cpI σ t0 i0 t i sp dp n).2.2 q.1 q.2 := by
  intro q hq
  refine ⟨?_, rfl, rfl⟩
  funext j
  show _ = if q.1 = t ∧ q.2 = i ∧ dp ≤ j ∧ j < dp + n then σ.1 t0 i0 (sp + (j - dp)) else σ.1 q.1 q.2 j
  rw [if_neg (fun e => pr_ne hq ⟨e.1, e.2.1⟩)]
theorem cpL_ne (σ : AM) (t0 i0 t i sp dp n : Nat) : ∀ q : Nat × Nat, q ≠ (t, i) → σ.1 q.1 q.2 = (cpL σ t0 i0 t i sp dp n).1 q.1 q.2 ∧ σ.2.1 q.1 q.2 = (cpL σ t0 i0 t i sp dp n).2.1 q.1 q.2 ∧ σ.2.2 q.1 q.2 = (cpL σ t0 i0 t i sp dp n).2.2 q.1 q.2 := by
  intro q hq
  refine ⟨rfl, ?_, rfl⟩
  funext j
  show _ = if q.1 = t ∧ q.2 = i ∧ dp ≤ j ∧ j < dp + n then σ.2.1 t0 i0 (sp + (j - dp)) else σ.2.1 q.1 q.2 j
  rw [if_neg (fun e => pr_ne hq ⟨e.1, e.2.1⟩)]
theorem flds_get {ad : Nat × Nat → Nat} {σ : AM} {t i c k : Nat} (hk : k < (fkl c).length) : (flds ad σ t i c)[k]? = some (fval ad σ t i k ((fkl c).getD k (9, 0, 0))) := by
  rw [flds, List.getElem?_map, List.getElem?_range hk]
  rfl
theorem flds_len {ad : Nat × Nat → Nat} {σ : AM} {t i c : Nat} : (flds ad σ t i c).length = (fkl c).length := by
  rw [flds, List.length_map, List.length_range]
/-- a field is set -/
theorem flds_set {ad : Nat × Nat → Nat} {σ σ' : AM} {t i c k : Nat} {v : Value} (hk : k < (fkl c).length) (hv : fval ad σ' t i k ((fkl c).getD k (9, 0, 0)) = v) (hne : ∀ j, j ≠ k → σ'.1 t i j = σ.1 t i j ∧ σ'.2.1 t i j = σ.2.1 t i j ∧ σ'.2.2 t i j = σ.2.2 t i j) : flds ad σ' t i c = (flds ad σ t i c).set k v := by
  apply List.ext_getElem?
  intro j
  by_cases hj : j = k
  · subst hj
    rw [List.getElem?_set_self (by rw [flds_len]; exact hk), flds_get hk, hv]
  · rw [List.getElem?_set_ne (Ne.symm hj)]
    by_cases hl : j < (fkl c).length
    · rw [flds_get hl, flds_get hl]
      obtain ⟨h1, h2, h3⟩ := hne j hj
      unfold fval
      rw [h1, h2, h3]
    · rw [List.getElem?_eq_none (by rw [flds_len]; omega), List.getElem?_eq_none (by rw [flds_len]; omega)]
theorem upd_wI {σ : AM} {t i k : Nat} {x : Int32} : (wI σ t i k x).1 t i = upd (σ.1 t i) k x := by
  funext j
  show (if t = t ∧ i = i ∧ j = k then x else σ.1 t i j) = if j = k then x else σ.1 t i j
  by_cases h : j = k
  · rw [if_pos ⟨rfl, rfl, h⟩, if_pos h]
  · rw [if_neg (fun e => h e.2.2), if_neg h]
theorem upd_wL {σ : AM} {t i k : Nat} {x : Int64} : (wL σ t i k x).2.1 t i = vp_updL (σ.2.1 t i) k x := by
  funext j
  show (if t = t ∧ i = i ∧ j = k then x else σ.2.1 t i j) = if j = k then x else σ.2.1 t i j
  by_cases h : j = k
  · rw [if_pos ⟨rfl, rfl, h⟩, if_pos h]
  · rw [if_neg (fun e => h e.2.2), if_neg h]
theorem cpy_cpI {σ : AM} {t0 i0 t i sp dp n : Nat} : (cpI σ t0 i0 t i sp dp n).1 t i = va_cpy (σ.1 t0 i0) (σ.1 t i) sp dp n := by
  funext j
  show (if t = t ∧ i = i ∧ dp ≤ j ∧ j < dp + n then σ.1 t0 i0 (sp + (j - dp)) else σ.1 t i j) = if dp ≤ j ∧ j < dp + n then σ.1 t0 i0 (sp + (j - dp)) else σ.1 t i j
  by_cases h : dp ≤ j ∧ j < dp + n
  · rw [if_pos ⟨rfl, rfl, h⟩, if_pos h]
  · rw [if_neg (fun e => h e.2.2), if_neg h]
theorem cpy_cpL {σ : AM} {t0 i0 t i sp dp n : Nat} : (cpL σ t0 i0 t i sp dp n).2.1 t i = va_cpy (σ.2.1 t0 i0) (σ.2.1 t i) sp dp n := by
  funext j
  show (if t = t ∧ i = i ∧ dp ≤ j ∧ j < dp + n then σ.2.1 t0 i0 (sp + (j - dp)) else σ.2.1 t i j) = if dp ≤ j ∧ j < dp + n then σ.2.1 t0 i0 (sp + (j - dp)) else σ.2.1 t i j
  by_cases h : dp ≤ j ∧ j < dp + n
  · rw [if_pos ⟨rfl, rfl, h⟩, if_pos h]
  · rw [if_neg (fun e => h e.2.2), if_neg h]
/-! locals -/
def isU : AV → Bool
  | .inr (.inr (0, _)) => true
  | _ => false
def lvc (ad : Nat × Nat → Nat) : Nat → List AV → List (Nat × Value)
  | _, [] => []
  | i, v :: r => bif isU v then lvc ad (i + 1) r else (i, cv ad v) :: lvc ad (i + 1) r
theorem lvc_mem {ad : Nat × Nat → Nat} : ∀ (l : List AV) (i : Nat) (q : Nat × Value), q ∈ lvc ad i l ↔ ∃ k v, l[k]? = some v ∧ isU v = false ∧ q = (i + k, cv ad v)
  | [], i, q => by simp [lvc]
  | v :: r, i, q => by
    have ih := lvc_mem (ad := ad) r (i + 1) q
    constructor
    · intro h
      have key : q ∈ lvc ad (i + 1) r → ∃ k w, (v :: r)[k]? = some w ∧ isU w = false ∧ q = (i + k, cv ad w) := by
        intro h
        obtain ⟨k, w, h1, h2, h3⟩ := ih.mp h
        exact ⟨k + 1, w, by rw [List.getElem?_cons_succ]; exact h1, h2, by rw [h3]; congr 1; omega⟩
      rw [lvc] at h
      cases hv : isU v with
      | true => rw [hv] at h; exact key h
      | false =>
        rw [hv] at h
        rcases List.mem_cons.mp h with h | h
        · exact ⟨0, v, rfl, hv, h⟩
        · exact key h
    · rintro ⟨k, w, h1, h2, h3⟩
      rw [lvc]
      cases k with
      | zero =>
        rw [List.getElem?_cons_zero] at h1
        cases h1
        rw [h2, h3]
        exact List.mem_cons_self
      | succ k =>
        rw [List.getElem?_cons_succ] at h1
        have h4 : q ∈ lvc ad (i + 1) r := ih.mpr ⟨k, w, h1, h2, by rw [h3]; congr 1; omega⟩
        cases isU v with
        | true => exact h4
        | false => exact List.mem_cons_of_mem _ h4
theorem lvG_at : ∀ (l : List AV) (k : Nat), isU (lvG l k) = false → l[k]? = some (lvG l k)
  | [], k, h => by simp [lvG, isU] at h
  | v :: r, 0, h => rfl
  | v :: r, k + 1, h => by rw [List.getElem?_cons_succ]; exact lvG_at r k h
theorem lv_load {ad : Nat × Nat → Nat} {ls : Array Slot} {nL : Nat} {lv : List AV} (h : lv_has ls nL (lvc ad 0 lv)) {k : Nat} (hu : isU (lvG lv k) = false) : ls[k]? = some (.val (cv ad (lvG lv k))) := by
  have h1 := h.2.2 (k, cv ad (lvG lv k)) ((lvc_mem lv 0 _).mpr ⟨k, lvG lv k, lvG_at lv k hu, hu, by simp⟩)
  exact h1
theorem lvG_vv {l : List AV} (h : AllV l) : ∀ k, vv (lvG l k) := by
  induction l with
  | nil => intro k; exact Or.inl ⟨rfl, rfl⟩
  | cons v r ih =>
    intro k
    cases k with
    | zero => exact h.hd
    | succ k => exact ih h.tl k
theorem lvS_len : ∀ (l : List AV) (k : Nat) (v : AV), (lvS l k v).length = l.length
  | [], _, _ => rfl
  | _ :: _, 0, _ => rfl
  | x :: r, k + 1, v => by simp [lvS, lvS_len r k v]
/-- what is in a place behind a store -/
theorem lvS_get : ∀ (l : List AV) (k : Nat) (v : AV) (j : Nat) (w : AV), (lvS l k v)[j]? = some w → isU w = false → (j = k ∧ w = v) ∨ (j ≠ k ∧ l[j]? = some w ∧ ¬ (j + 1 = k ∧ isL w = true))
  | [], _, _, j, w, h, _ => by simp [lvS] at h
  | x :: r, 0, v, j, w, h, _ => by
    cases j with
    | zero => rw [lvS, List.getElem?_cons_zero] at h; cases h; exact Or.inl ⟨rfl, rfl⟩
    | succ j => rw [lvS, List.getElem?_cons_succ] at h; exact Or.inr ⟨by omega, by rw [List.getElem?_cons_succ]; exact h, fun e => by omega⟩
  | x :: r, k + 1, v, j, w, h, hu => by
    cases j with
    | zero =>
      rw [lvS, List.getElem?_cons_zero] at h
      have h := Option.some.inj h
      refine Or.inr ⟨by omega, ?_⟩
      cases hk : Nat.beq k 0 with
      | false =>
        rw [hk] at h
        have h : x = w := h
        subst h
        refine ⟨rfl, fun e => ?_⟩
        have : k = 0 := by omega
        subst this
        simp at hk
      | true =>
        rw [hk] at h
        cases hx : isL x with
        | true =>
          rw [hx] at h
          have h : unset = w := h
          subst h
          simp [isU] at hu
        | false =>
          rw [hx] at h
          have h : x = w := h
          subst h
          exact ⟨rfl, fun e => by rw [hx] at e; exact absurd e.2 (by decide)⟩
    | succ j =>
      rw [lvS, List.getElem?_cons_succ] at h
      rcases lvS_get r k v j w h hu with ⟨h1, h2⟩ | ⟨h1, h2, h3⟩
      · exact Or.inl ⟨by omega, h2⟩
      · exact Or.inr ⟨by omega, by rw [List.getElem?_cons_succ]; exact h2, fun e => h3 ⟨by omega, e.2⟩⟩
theorem lvS_vv {l : List AV} {v : AV} (hv : vv v) : ∀ k, AllV l → AllV (lvS l k v) := by
  induction l with
  | nil => intro k h; exact h
  | cons x r ih =>
    intro k h
    cases k with
    | zero => exact AllV.cons hv h.tl
    | succ k =>
      refine AllV.cons ?_ (ih k h.tl)
      cases Nat.beq k 0 with
      | false => exact h.hd
      | true =>
        cases isL x with
        | true => exact Or.inl ⟨rfl, rfl⟩
        | false => exact h.hd
theorem isL_cat {ad : Nat × Nat → Nat} (v : AV) : (cv ad v).category = if isL v then 2 else 1 := by
  rcases v with x | x | ⟨t, i⟩ <;> rfl
/-- the locals behind a store of one slot -/
theorem lv_st1 {ad : Nat × Nat → Nat} {ls : Array Slot} {nL : Nat} {lv : List AV} {k : Nat} {v : AV} (h : lv_has ls nL ((k, cv ad v) :: (lvc ad 0 lv).filter (fun q => !(q.1 == k) && !(q.1 + 1 == k && q.2.category == 2)))) : lv_has ls nL (lvc ad 0 (lvS lv k v)) := by
  refine ⟨h.1, h.2.1, fun q hq => ?_⟩
  obtain ⟨j, w, h1, h2, h3⟩ := (lvc_mem _ _ _).mp hq
  rw [Nat.zero_add] at h3
  rcases lvS_get lv k v j w h1 h2 with ⟨e1, e2⟩ | ⟨e1, e2, e3⟩
  · subst e1; subst e2
    rw [h3]
    exact h.2.2 _ List.mem_cons_self
  · refine h.2.2 q (List.mem_cons_of_mem _ (List.mem_filter.mpr ⟨(lvc_mem _ _ _).mpr ⟨j, w, e2, h2, by rw [Nat.zero_add]; exact h3⟩, ?_⟩))
    rw [h3]
    have hb : ¬ (j + 1 = k ∧ (cv ad w).category = 2) := fun e => e3 ⟨e.1, by
      have := e.2
      rw [isL_cat] at this
      cases hw : isL w with
      | true => rfl
      | false => rw [hw] at this; simp at this⟩
    simp only [Bool.and_eq_true, Bool.not_eq_true', beq_eq_false_iff_ne, ne_eq, Bool.and_eq_false_iff]
    refine ⟨e1, ?_⟩
    by_cases hj : j + 1 = k
    · exact Or.inr (fun e => hb ⟨hj, e⟩)
    · exact Or.inl hj
/-- the locals behind a store of two slots -/
theorem lv_st2 {ad : Nat × Nat → Nat} {ls : Array Slot} {nL : Nat} {lv : List AV} {k : Nat} {v : AV} (h : lv_has ls nL ((k, cv ad v) :: (lvc ad 0 lv).filter (fun q => !(q.1 == k) && (!(q.1 == k + 1) && !(q.1 + 1 == k && q.2.category == 2))))) : lv_has ls nL (lvc ad 0 (lvS2 lv k v)) := by
  refine ⟨h.1, h.2.1, fun q hq => ?_⟩
  obtain ⟨j, w, h1, h2, h3⟩ := (lvc_mem _ _ _).mp hq
  rw [Nat.zero_add] at h3
  rcases lvS_get (lvS lv (k + 1) unset) k v j w h1 h2 with ⟨e1, e2⟩ | ⟨e1, e2, e3⟩
  · subst e1; subst e2
    rw [h3]
    exact h.2.2 _ List.mem_cons_self
  · rcases lvS_get lv (k + 1) unset j w e2 h2 with ⟨f1, f2⟩ | ⟨f1, f2, f3⟩
    · subst f2; simp [isU] at h2
    · refine h.2.2 q (List.mem_cons_of_mem _ (List.mem_filter.mpr ⟨(lvc_mem _ _ _).mpr ⟨j, w, f2, h2, by rw [Nat.zero_add]; exact h3⟩, ?_⟩))
      rw [h3]
      have hb : ¬ (j + 1 = k ∧ (cv ad w).category = 2) := fun e => e3 ⟨e.1, by
        have := e.2
        rw [isL_cat] at this
        cases hw : isL w with
        | true => rfl
        | false => rw [hw] at this; simp at this⟩
      simp only [Bool.and_eq_true, Bool.not_eq_true', beq_eq_false_iff_ne, ne_eq, Bool.and_eq_false_iff]
      refine ⟨e1, f1, ?_⟩
      by_cases hj : j + 1 = k
      · exact Or.inr (fun e => hb ⟨hj, e⟩)
      · exact Or.inl hj
