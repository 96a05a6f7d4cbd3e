def oneS (s : Nat) : Option Nat := if cnt s = 1 then lst s else none
theorem oneS_key : ∀ (s : Fin 128) (m : Fin 7), oneS s.val = some m.val ↔ (s.val.testBit m.val = true ∧ ∀ j : Fin 7, s.val.testBit j.val = true → j = m) := by decide +kernel
theorem oneS_7 : ∀ s : Fin 128, ∀ m, oneS s.val = some m → m < 7 := by
  intro s m hm
  unfold oneS at hm
  split at hm
  · exact (lst_some.mp hm).1
  · cases hm
theorem s_onlyOneOf {CALL : CT} (hC : RuleAll CALL) {r : Nat} {σ : AM} {K : AV → AM → Prop} {s : Nat} (hs : s < 128) (h : K (.inl (Int32.ofInt (opI (oneS s)))) σ) : CALL (r + 3) n_x_onlyOneOf [.inl (Int32.ofInt s)] σ K := by
  refine r_x_onlyOneOf hC (fun J hJ => ?_)
  refine hJ _ _ _ _ ?_
  conv => whnf
  have cl := cnt_le ⟨s, hs⟩
  have cl : cnt s ≤ 7 := cl
  refine s_bitCount hC hs ?_
  conv => whnf
  refine ⟨fun c => ?_, fun c => ?_⟩ <;> (try simp (disch := omega) only [oi_le, oi_lt, oi_eq, oi_lt0, oi_le0, oi_0lt, oi_0le, oi_eq0, oi_eq1, bI_eq0, bI_ne0, bI_eq1, decide_eq_true_eq, decide_eq_false_iff_not, lc_lt, lc_gt, lc_eq, lc_ge, lc_le, ol_lt, ol_eq, ne_eq, Int.not_lt, Int.not_le, Bool.not_eq_true, Bool.not_eq_false, Decidable.not_not, not_true_eq_false, not_false_eq_true, Bool.true_eq_false, Bool.false_eq_true] at c) <;> (first | (exfalso; omega) | ((with_reducible refine hJ _ _ _ _ ?_); conv => whnf) | (conv => whnf))
  · refine hJ _ _ _ _ ?_
    conv => whnf
    have e : oneS s = none := if_neg (by omega)
    rw [e] at h
    exact h
  · refine s_leastOf hC hs ?_
    conv => whnf
    refine hJ _ _ _ _ ?_
    conv => whnf
    have e : oneS s = lst s := if_pos (by omega)
    rw [e] at h
    exact h
theorem suF_eq (k : Nat) : ∀ (ws : List (List Nat)) (v : Int), (∀ w, w ∈ ws → ((w.getD k 0 : Nat) : Int) = v) → ws.foldl (suG k) v = v
  | [], v, _ => rfl
  | w :: ws, v, h => by
    rw [List.foldl_cons]
    have : suG k v w = v := if_pos (h w List.mem_cons_self).symm
    rw [this]
    exact suF_eq k ws v (fun x hx => h x (List.mem_cons_of_mem _ hx))
theorem suF_far (k : Nat) : ∀ (ws : List (List Nat)), PO ws → ws.foldl (suG k) 1000000 = 1000000
  | [], _ => rfl
  | w :: ws, h => by
    rw [List.foldl_cons]
    have := getD_lt (h w List.mem_cons_self) k
    have : suG k 1000000 w = 1000000 := if_neg (by omega)
    rw [this]
    exact suF_far k ws (fun x hx => h x (List.mem_cons_of_mem _ hx))
theorem suF_ne (k : Nat) : ∀ (ws : List (List Nat)) (v : Int), PO ws → (∃ w, w ∈ ws ∧ ((w.getD k 0 : Nat) : Int) ≠ v) → ws.foldl (suG k) v = 1000000
  | [], v, _, ⟨w, h, _⟩ => absurd h List.not_mem_nil
  | w :: ws, v, hp, ⟨x, hx, hne⟩ => by
    rw [List.foldl_cons]
    have hp' : PO ws := fun y hy => hp y (List.mem_cons_of_mem _ hy)
    by_cases e : v = ((w.getD k 0 : Nat) : Int)
    · have : suG k v w = v := if_pos e
      rw [this]
      refine suF_ne k ws v hp' ⟨x, ?_, hne⟩
      rcases List.mem_cons.mp hx with hx | hx
      · rw [hx] at hne; exact absurd e.symm hne
      · exact hx
    · have : suG k v w = 1000000 := if_neg e
      rw [this]
      exact suF_far k ws hp'
theorem getD_get {w : List Nat} {k : Nat} (hk : k < w.length) : w[k]? = some (w.getD k 0) := by
  rw [List.getD_eq_getElem?_getD, List.getElem?_eq_getElem hk]
  rfl
theorem sure_eq {P : List (List Nat)} {n k s' : Nat} (hk : k < n) (hP : ∀ w, w ∈ P → w.length = n ∧ ∀ x, x ∈ w → x < 7) (hb : SB 0 s' P 0 (k : Int)) : opI (oneS s') = if P = [] ∨ suV P k = 1000000 then -1 else suV P k := by
  have bit : ∀ m, s'.testBit m = true ↔ ∃ w, w ∈ P ∧ w.getD k 0 = m := by
    intro m
    rw [hb.2 m]
    constructor
    · rintro (z | ⟨-, w, h1, h2⟩)
      · rw [Nat.zero_testBit] at z; cases z
      · rw [show ((k : Int) - ((0 : Nat) : Int)).toNat = k by omega, getD_get (by rw [(hP w h1).1]; exact hk)] at h2
        exact ⟨w, h1, Option.some.inj h2⟩
    · rintro ⟨w, h1, h2⟩
      refine Or.inr ⟨by omega, w, h1, ?_⟩
      rw [show ((k : Int) - ((0 : Nat) : Int)).toNat = k by omega, getD_get (by rw [(hP w h1).1]; exact hk), h2]
  have one : ∀ m, m < 7 → (oneS s' = some m ↔ (s'.testBit m = true ∧ ∀ j, j < 7 → s'.testBit j = true → j = m)) := by
    intro m hm
    have := oneS_key ⟨s', hb.1⟩ ⟨m, hm⟩
    refine this.trans ⟨fun z => ⟨z.1, fun j hj hbj => ?_⟩, fun z => ⟨z.1, fun j hbj => Fin.ext (z.2 j.val j.isLt hbj)⟩⟩
    exact congrArg Fin.val (z.2 ⟨j, hj⟩ hbj)
  have no : (∀ m, m < 7 → oneS s' ≠ some m) → oneS s' = none := by
    intro hno
    cases e : oneS s' with
    | none => rfl
    | some m => exact absurd e (hno m (oneS_7 ⟨s', hb.1⟩ m e))
  cases hPe : P with
  | nil =>
    rw [if_pos (Or.inl rfl), no (fun m hm z => ?_)]
    · rfl
    · obtain ⟨w, h1, -⟩ := (bit m).mp ((one m hm).mp z).1
      rw [hPe] at h1
      exact absurd h1 List.not_mem_nil
  | cons w0 ws =>
    have hPO : PO P := fun w hw => (hP w hw).2
    have w0m : w0 ∈ P := by rw [hPe]; exact List.mem_cons_self
    have m0 := getD_lt (hPO w0 w0m) k
    have hPO' : PO ws := fun w hw => hPO w (by rw [hPe]; exact List.mem_cons_of_mem _ hw)
    by_cases all : ∀ w, w ∈ ws → ((w.getD k 0 : Nat) : Int) = ((w0.getD k 0 : Nat) : Int)
    · have e1 : suV (w0 :: ws) k = ((w0.getD k 0 : Nat) : Int) := suF_eq k ws _ all
      rw [e1, if_neg (fun z => z.elim (fun y => by cases y) (fun y => by omega)), (one (w0.getD k 0) m0).mpr ⟨(bit _).mpr ⟨w0, w0m, rfl⟩, fun j hj hbj => ?_⟩]
      · rfl
      · obtain ⟨w, h1, h2⟩ := (bit j).mp hbj
        rw [hPe] at h1
        rcases List.mem_cons.mp h1 with h1 | h1
        · rw [← h2, h1]
        · have := all w h1
          omega
    · have ex : ∃ w, w ∈ ws ∧ ((w.getD k 0 : Nat) : Int) ≠ ((w0.getD k 0 : Nat) : Int) := by
        apply Classical.byContradiction
        intro hne
        exact all (fun w hw => Classical.byContradiction (fun z => hne ⟨w, hw, z⟩))
      have e1 : suV (w0 :: ws) k = 1000000 := suF_ne k ws _ hPO' ex
      rw [if_pos (Or.inr e1), no (fun m hm z => ?_)]
      · rfl
      · obtain ⟨w, h1, h2⟩ := ex
        have o := (one m hm).mp z
        have w1m : w ∈ P := by rw [hPe]; exact List.mem_cons_of_mem _ h1
        have a1 := o.2 _ m0 ((bit _).mpr ⟨w0, w0m, rfl⟩)
        have a2 := o.2 _ (getD_lt (hPO w w1m) k) ((bit _).mpr ⟨w, w1m, rfl⟩)
        omega
theorem s_ways {CALL : CT} (hC : RuleAll CALL) {r : Nat} {σ : AM} {K : AV → AM → Prop} {q0 t n : Nat} {qa : Int} {s : Nat → Nat} {h0 : Nat → Int} (hr : HRep σ q0 h0) (hw : WF h0) (hq : 4 ≤ q0) (h5 : h0 5 + n ≤ 20000) (n4 : n ≤ 4) (qa1 : -1 ≤ qa) (qa2 : qa < 5) (hsv : ∀ l, l < n → σ.2.1 45 t l = Int64.ofInt (s l : Int)) (hs : ∀ l, l < n → (s l : Int) < h0 0) (h : ∀ (σ' : AM) (s' : Nat), SC σ σ' → σ'.1 11 0 7 = Int32.ofInt (s' : Int) → SB 0 s' (wl s n h0 0) 0 qa → K (.inl (Int32.ofInt ((wl s n h0 0).length : Nat))) σ') : CALL (r + 8) n_Ahead_ways [.inr (.inr (11, 0)), .inr (.inr (22, q0)), .inr (.inr (44, t)), .inl (Int32.ofInt n), .inl (Int32.ofInt qa)] σ K := by
  refine r_Ahead_ways hC (fun J hJ => ?_)
  refine hJ _ _ _ _ ?_
  conv => whnf
  have l2i : ∀ x : Nat, x < 100 → (Int64.ofInt (x : Int)).toInt32 = Int32.ofInt (x : Int) := by decide +kernel
  have b := hw.1
  refine ⟨(oi_in (by omega) (by omega)).mpr ⟨by omega, by omega⟩, ?_⟩
  conv => whnf
  rw [show 0 + (Int32.ofInt 0).toNatClampNeg = 0 from rfl]
  refine s_houseCopy hC (by omega) ?_
  conv => whnf
  have hr1 := hr.hou hw (a := 0) (by omega)
  have f1 := houC_fr (σ := σ) (n := q0) (a := 0)
  have f4 : (houC σ q0 0).2.2 = σ.2.2 := houC_R
  generalize houC σ q0 0 = τ at hr1 f1 f4 ⊢
  have hc1 : ChA (fun t i j => (22 ≤ t ∧ t ≤ 36 ∧ i < 4) ∨ t = 11 ∨ t = 14) (fun t i j => 22 ≤ t ∧ t ≤ 36 ∧ i < 4) σ τ := ⟨fun t p j z => congrFun (f1 t p (fun y => z (by unfold HS at y; omega))).1 j, fun t p j z => congrFun (f1 t p (fun y => z (by unfold HS at y; omega))).2.1 j, f4⟩
  have loop : ∀ (c i : Nat) (σi : AM), i + c = n → ChA (fun t i j => (22 ≤ t ∧ t ≤ 36 ∧ i < 4) ∨ t = 11 ∨ t = 14) (fun t i j => 22 ≤ t ∧ t ≤ 36 ∧ i < 4) σ σi → HRep σi 0 h0 → σi.1 11 0 3 = Int32.ofInt (n : Int) → σi.1 11 0 5 = Int32.ofInt qa → σi.1 11 0 7 = Int32.ofInt 0 → (∀ l, l < i → σi.1 14 0 l = Int32.ofInt (s l : Int)) → J 29 [.inr (.inr (11, 0)), .inr (.inr (22, q0)), .inr (.inr (44, t)), .inl (Int32.ofInt (n : Int)), .inl (Int32.ofInt qa), .inl (Int32.ofInt (i : Int))] [] σi := by
    intro c
    induction c with
    | zero =>
      intro i σi hi hc hri g3 g5 g7 g14
      refine hJ _ _ _ _ ?_
      conv => whnf
      refine ⟨fun c1 => ?_, fun c1 => ?_⟩ <;> (try simp (disch := omega) only [oi_le, oi_lt, oi_eq, oi_lt0, oi_le0, oi_0lt, oi_0le, oi_eq0, oi_eq1, bI_eq0, bI_ne0, bI_eq1, decide_eq_true_eq, decide_eq_false_iff_not, lc_lt, lc_gt, lc_eq, lc_ge, lc_le, ol_lt, ol_eq, ne_eq, Int.not_lt, Int.not_le, Bool.not_eq_true, Bool.not_eq_false, Decidable.not_not, not_true_eq_false, not_false_eq_true, Bool.true_eq_false, Bool.false_eq_true] at c1) <;> (first | (exfalso; omega) | ((with_reducible refine hJ _ _ _ _ ?_); conv => whnf) | (conv => whnf))
      by_cases n0 : n = 0
      · subst n0
        refine r_Ahead_waysFrom hC (fun J2 hJ2 => ?_)
        refine hJ2 _ _ _ _ ?_
        conv => whnf
        rw [g3]
        refine ⟨fun c2 => ?_, fun c2 => absurd (Int32.le_refl _) c2⟩
        refine hJ2 _ _ _ _ ?_
        conv => whnf
        refine h σi 0 (hc.sc (fun t i j z => ?_) (fun t i j z => ?_)) g7 ⟨by omega, fun m => ⟨fun z => Or.inl z, fun z => ?_⟩⟩
        · unfold keepI; omega
        · unfold keepL; omega
        · rcases z with z | ⟨z1, w, z2, z3⟩
          · exact z
          · rw [wl, List.mem_singleton] at z2
            subst z2
            simp at z3
      · obtain ⟨e, rfl⟩ : ∃ e, n = e + 1 := ⟨n - 1, by omega⟩
        have er : r + 7 = r + (3 - e) + e + 4 := by omega
        rw [er]
        refine s_waysFrom hC (n := e + 1) n4 qa1 qa2 (s := s) e (r + (3 - e)) (i := 0) (s0 := 0) (h0 := h0) (by omega) hri hw (by omega) (fun l _ hl => hs l hl) ⟨g3, g5, g7, fun l hl => g14 l (by omega)⟩ (by omega) (fun σ2 s' k1 k2 k3 => ?_)
        conv => whnf
        refine h σ2 s' ((hc.tr (k1.mo (fun t i j z => ?_) (fun t i j z => ?_))).sc (fun t i j z => ?_) (fun t i j z => ?_)) k2.2.2.1 k3
        · unfold whS at z; omega
        · unfold shL at z; omega
        · unfold keepI; omega
        · unfold keepL; omega
    | succ c ih =>
      intro i σi hi hc hri g3 g5 g7 g14
      have hsi := hs i (by omega)
      refine hJ _ _ _ _ ?_
      conv => whnf
      refine ⟨fun c1 => ?_, fun c1 => ?_⟩ <;> (try simp (disch := omega) only [oi_le, oi_lt, oi_eq, oi_lt0, oi_le0, oi_0lt, oi_0le, oi_eq0, oi_eq1, bI_eq0, bI_ne0, bI_eq1, decide_eq_true_eq, decide_eq_false_iff_not, lc_lt, lc_gt, lc_eq, lc_ge, lc_le, ol_lt, ol_eq, ne_eq, Int.not_lt, Int.not_le, Bool.not_eq_true, Bool.not_eq_false, Decidable.not_not, not_true_eq_false, not_false_eq_true, Bool.true_eq_false, Bool.false_eq_true] at c1) <;> (first | (exfalso; omega) | ((with_reducible refine hJ _ _ _ _ ?_); conv => whnf) | (conv => whnf))
      refine ⟨(oi_in (by omega) (by omega)).mpr ⟨by omega, by omega⟩, ?_⟩
      conv => whnf
      rw [oi_nat (by omega) (by omega), Int.toNat_natCast, hc.2.1 45 t i (by omega), hsv i (by omega), l2i (s i) (by omega)]
      refine ⟨(oi_in (by omega) (by omega)).mpr ⟨by omega, by omega⟩, ?_⟩
      conv => whnf
      rw [oi_succ]
      refine ih (i + 1) _ (by omega) (hc.tr (ChA.wI (Or.inr (Or.inr rfl)))) (hri.ch (S := fun t i j => t = 14) (Ch.wI rfl) (fun t j a b => by omega)) (by rw [wI1, if_neg (by omega), g3]) (by rw [wI1, if_neg (by omega), g5]) (by rw [wI1, if_neg (by omega), g7]) (fun l hl => ?_)
      rw [wI1]
      by_cases e : l = i
      · rw [if_pos ⟨rfl, rfl, e⟩, e]
      · rw [if_neg (by omega)]; exact g14 l (by omega)
  refine loop n 0 _ (by omega) (((hc1.tr (ChA.wI (Or.inr (Or.inl rfl)))).tr (ChA.wI (Or.inr (Or.inl rfl)))).tr (ChA.wI (Or.inr (Or.inl rfl)))) ?_ ?_ ?_ wI_16 (fun l hl => by omega)
  · exact ((hr1.ch (S := fun t i j => t = 11) (Ch.wI rfl) (fun t j a b => by omega)).ch (S := fun t i j => t = 11) (Ch.wI rfl) (fun t j a b => by omega)).ch (S := fun t i j => t = 11) (Ch.wI rfl) (fun t j a b => by omega)
  · rw [wI1, if_neg (by omega), wI1, if_neg (by omega), wI_16]
  · rw [wI1, if_neg (by omega), wI_16]
theorem hdS_cg {σ σ' : AM} {M : Nat → Int} {c z : Int} {n : Nat} (e : ∀ j, σ'.2.1 51 0 j = σ.2.1 51 0 j) : hdS σ' M c z n = hdS σ M c z n := by
  have : ∀ t, tv σ' t = tv σ t := fun t => funext (fun l => by unfold tv; rw [e])
  unfold hdS
  rw [this]
theorem hdS_0 {σ : AM} {M : Nat → Int} {c z : Int} {n : Nat} (h : hdS σ M c z n = 0) : (0 ≤ z ∧ z ≤ 3) ∧ M z.toNat ≠ -1 ∧ (n : Int) ≤ M z.toNat ∧ allT (tv σ z.toNat) c n 0 = true := by
  unfold hdS at h
  by_cases a1 : 0 ≤ z ∧ z ≤ 3
  · rw [if_neg (fun q => q a1)] at h
    by_cases a2 : M z.toNat = -1
    · rw [if_pos a2] at h; omega
    · rw [if_neg a2] at h
      by_cases a3 : M z.toNat < n
      · rw [if_pos a3] at h; omega
      · rw [if_neg a3] at h
        by_cases a4 : allT (tv σ z.toNat) c n 0 = true
        · exact ⟨a1, a2, by omega, a4⟩
        · rw [if_neg a4] at h; omega
  · rw [if_pos a1] at h; omega
theorem hdS_bd (σ : AM) (M : Nat → Int) (c z : Int) (n : Nat) : 0 ≤ hdS σ M c z n ∧ hdS σ M c z n ≤ 5 := by
  unfold hdS
  by_cases a1 : 0 ≤ z ∧ z ≤ 3
  · rw [if_neg (fun q => q a1)]
    by_cases a2 : M z.toNat = -1
    · rw [if_pos a2]; omega
    · rw [if_neg a2]
      by_cases a3 : M z.toNat < n
      · rw [if_pos a3]; omega
      · rw [if_neg a3]
        by_cases a4 : allT (tv σ z.toNat) c n 0 = true
        · rw [if_pos a4]; omega
        · rw [if_neg a4]; omega
  · rw [if_pos a1]; omega
theorem TmM.sc {σ σ' : AM} {M S : Nat → Int} (h : TmM σ M S) (hs : SC σ σ') : TmM σ' M S := h.cg (fun j => hs.1 _ _ _ (by unfold keepI; omega)) (fun j => hs.1 _ _ _ (by unfold keepI; omega))
