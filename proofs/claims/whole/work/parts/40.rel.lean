/-! longs -/
abbrev ol (z : Int) : Int64 := Int64.ofInt z
theorem tl_ol {a : Int} (h1 : -9223372036854775808 ≤ a) (h2 : a < 9223372036854775808) : (Int64.ofInt a).toInt = a := by
  rw [Int64.toInt_ofInt]
  exact Int.bmod_eq_of_le_mul_two (by show -(9223372036854775808 * 2 : Int) ≤ a * 2; omega) (by show a * 2 < (9223372036854775808 * 2 : Int); omega)
theorem oi_l {a : Int} (h1 : -2147483648 ≤ a) (h2 : a < 2147483648) : (Int32.ofInt a).toInt64 = Int64.ofInt a := by
  apply Int64.toInt_inj.mp
  rw [Int32.toInt_toInt64, ti_oi h1 h2, tl_ol (by omega) (by omega)]
theorem ol_lt {a b : Int} (h1 : -9223372036854775808 ≤ a) (h2 : a < 9223372036854775808) (h3 : -9223372036854775808 ≤ b) (h4 : b < 9223372036854775808) : Int64.ofInt a < Int64.ofInt b ↔ a < b := by
  rw [Int64.lt_iff_toInt_lt, tl_ol h1 h2, tl_ol h3 h4]
theorem ol_eq {a b : Int} (h1 : -9223372036854775808 ≤ a) (h2 : a < 9223372036854775808) (h3 : -9223372036854775808 ≤ b) (h4 : b < 9223372036854775808) : Int64.ofInt a = Int64.ofInt b ↔ a = b := by
  rw [← Int64.toInt_inj, tl_ol h1 h2, tl_ol h3 h4]
theorem lc_eq (x y : Int64) : (lg_cmp x y = 0 ↔ x = y) := by
  unfold lg_cmp
  by_cases h : x > y
  · rw [if_pos h]
    exact ⟨fun z => absurd z (by decide), fun z => by subst z; exact absurd h (Int64.lt_irrefl)⟩
  · rw [if_neg h]
    by_cases e : x = y
    · rw [if_pos e]; exact ⟨fun _ => e, fun _ => rfl⟩
    · rw [if_neg e]; exact ⟨fun z => absurd z (by decide), fun z => absurd z e⟩
theorem lc_lt (x y : Int64) : (lg_cmp x y < 0 ↔ x < y) := by
  unfold lg_cmp
  by_cases h : x > y
  · rw [if_pos h]
    exact ⟨fun z => absurd z (by decide), fun z => absurd (Int64.lt_trans h z) Int64.lt_irrefl⟩
  · rw [if_neg h]
    by_cases e : x = y
    · rw [if_pos e]; exact ⟨fun z => absurd z (by decide), fun z => by subst e; exact absurd z Int64.lt_irrefl⟩
    · rw [if_neg e]
      refine ⟨fun _ => ?_, fun _ => by decide⟩
      have h1 : x ≤ y := Int64.not_lt.mp h
      rw [Int64.le_iff_toInt_le] at h1
      rw [Int64.lt_iff_toInt_lt]
      have h2 : x.toInt ≠ y.toInt := fun z => e (Int64.toInt_inj.mp z)
      omega
theorem lc_gt (x y : Int64) : (0 < lg_cmp x y ↔ y < x) := by
  unfold lg_cmp
  by_cases h : x > y
  · rw [if_pos h]; exact ⟨fun _ => h, fun _ => by decide⟩
  · rw [if_neg h]
    by_cases e : x = y
    · rw [if_pos e]; exact ⟨fun z => absurd z (by decide), fun z => absurd z h⟩
    · rw [if_neg e]; exact ⟨fun z => absurd z (by decide), fun z => absurd z h⟩
theorem lc_ge (x y : Int64) : (0 ≤ lg_cmp x y ↔ ¬ x < y) := by rw [← lc_lt, Int32.not_lt]
theorem lc_le (x y : Int64) : (lg_cmp x y ≤ 0 ↔ ¬ y < x) := by rw [← lc_gt, Int32.not_lt]
/-! what stays but for scratch and STATUS -/
def keepI (t i j : Nat) : Prop := (t = 1 ∧ j = 15) ∨ (t = 3 ∧ 2 ≤ j ∧ j ≤ 4) ∨ t = 4 ∨ (22 ≤ t ∧ t ≤ 36 ∧ 4 ≤ i) ∨ (37 ≤ t ∧ t ≤ 45) ∨ (t = 19 ∧ i = 0 ∧ 4 ≤ j) ∨ (t = 46 ∧ (j = 10 ∨ j = 16 ∨ j = 17 ∨ j = 45 ∨ j = 46)) ∨ (t = 47 ∧ j < 1860) ∨ t = 49 ∨ t = 50 ∨ t = 52 ∨ t = 66
def keepL (t i _j : Nat) : Prop := t = 1 ∨ t = 5 ∨ (22 ≤ t ∧ t ≤ 36 ∧ 4 ≤ i) ∨ t = 45 ∨ t = 46 ∨ t = 48 ∨ t = 51
def SC (σ σ' : AM) : Prop := (∀ t i j, keepI t i j → σ'.1 t i j = σ.1 t i j) ∧ (∀ t i j, keepL t i j → σ'.2.1 t i j = σ.2.1 t i j) ∧ (∀ j, 11 ≤ j → j ≤ 14 → σ'.2.2 1 0 j = σ.2.2 1 0 j)
theorem SC.rf {σ : AM} : SC σ σ := ⟨fun _ _ _ _ => rfl, fun _ _ _ _ => rfl, fun _ _ _ => rfl⟩
theorem SC.tr {σ σ' σ'' : AM} (h : SC σ σ') (h2 : SC σ' σ'') : SC σ σ'' := ⟨fun t i j k => (h2.1 t i j k).trans (h.1 t i j k), fun t i j k => (h2.2.1 t i j k).trans (h.2.1 t i j k), fun j a b => (h2.2.2 j a b).trans (h.2.2 j a b)⟩
theorem SC.wI {σ : AM} {t i j : Nat} {x : Int32} (h : ¬ keepI t i j) : SC σ (wI σ t i j x) := ⟨fun t' i' j' k => by rw [wI1, if_neg (fun z => h (by rw [← z.1, ← z.2.1, ← z.2.2]; exact k))], fun _ _ _ _ => rfl, fun _ _ _ => rfl⟩
theorem SC.fr {S : Nat → Nat → Prop} {σ σ' : AM} (hf : Fr S σ σ') (h1 : ∀ t i j, S t i → ¬ keepI t i j) (h2 : ∀ t i j, S t i → ¬ keepL t i j) (h3 : ¬ S 1 0) : SC σ σ' :=
  ⟨fun t i j k => congrFun (hf t i (fun z => h1 t i j z k)).1 j, fun t i j k => congrFun (hf t i (fun z => h2 t i j z k)).2.1 j, fun j _ _ => congrFun (hf 1 0 h3).2.2 j⟩
theorem nk_code : ¬ keepI 1 0 16 := by unfold keepI; omega
theorem nk_status : ¬ keepI 46 0 2 := by unfold keepI; omega
/-- the house that is there now, of the class and of the reference -/
def NH (σ : AM) (n : Nat) (h : Nat → Int) : Prop := (n = 4 ∨ n = 5) ∧ σ.2.2 1 0 11 = n ∧ HRep σ n h ∧ M0 σ h ∧ WP h ∧ h 5 ≤ 9999
theorem NH.sc {σ σ' : AM} {n : Nat} {h : Nat → Int} (hn : NH σ n h) (hs : SC σ σ') : NH σ' n h := by
  obtain ⟨h1, h2, h3, h4, h5, h6⟩ := hn
  refine ⟨h1, (hs.2.2 11 (by omega) (by omega)).trans h2, ?_, fun j hj => ?_, h5, h6⟩
  · have e : ∀ t j, 22 ≤ t → t ≤ 36 → σ'.1 t n j = σ.1 t n j := fun t j a b => hs.1 t n j (by unfold keepI; omega)
    obtain ⟨q0, q1, q2, q3, q4, q5, q6, q7, q8, q9, qa, qt, qm, qe⟩ := h3
    refine ⟨?_, ?_, ?_, ?_, ?_, ?_, ?_, ?_, ?_, ?_, ?_, fun t q => ?_, fun m q => ?_, fun k q => ?_⟩
    all_goals simp only [e 22 _ (by omega) (by omega), e 23 _ (by omega) (by omega), e 25 _ (by omega) (by omega), e 26 _ (by omega) (by omega), e 27 _ (by omega) (by omega), e 29 _ (by omega) (by omega), e 30 _ (by omega) (by omega), e 31 _ (by omega) (by omega), e 32 _ (by omega) (by omega), e 33 _ (by omega) (by omega), e 34 _ (by omega) (by omega), e 35 _ (by omega) (by omega), e 36 _ (by omega) (by omega)]
    all_goals first | assumption | exact qt t q | exact qm m q | exact qe k q
  · rw [hs.1 47 0 j (by unfold keepI; omega)]
    exact h4 j hj
theorem s_withinI {CALL : CT} (hC : RuleAll CALL) {r : Nat} {σ : AM} {K : AV → AM → Prop} {z a b : Int} (z1 : -2147483648 ≤ z) (z2 : z < 2147483648) (a1 : -2147483648 ≤ a) (a2 : a < 2147483648) (b1 : -2147483648 ≤ b) (b2 : b < 2147483648) (h : K (.inl (bI (decide (a ≤ z ∧ z ≤ b)))) σ) : CALL (r + 1) n_x_within [.inl (Int32.ofInt z), .inl (Int32.ofInt a), .inl (Int32.ofInt b)] σ K := by
  refine s_within hC ?_
  rw [show decide (Int32.ofInt a ≤ Int32.ofInt z ∧ Int32.ofInt z ≤ Int32.ofInt b) = decide (a ≤ z ∧ z ≤ b) from decide_eq_decide.mpr (by rw [oi_le (by omega) (by omega) (by omega) (by omega), oi_le (by omega) (by omega) (by omega) (by omega)])]
  exact h
/-! answers with their STATUS -/
theorem s_give {CALL : CT} (hC : RuleAll CALL) {r : Nat} {σ : AM} {K : AV → AM → Prop} {x : Int32} (h : K (.inl x) (wI σ 1 0 16 (Int32.ofInt 0))) : CALL (r + 1) n_x_give [.inr (.inr (1, 0)), .inl x] σ K := by
  refine r_x_give hC (fun J hJ => ?_)
  refine hJ _ _ _ _ ?_
  conv => whnf
  exact h
theorem s_none {CALL : CT} (hC : RuleAll CALL) {r : Nat} {σ : AM} {K : AV → AM → Prop} {x : Int32} (h : K (.inl (Int32.ofInt (-1))) (wI σ 1 0 16 x)) : CALL (r + 1) n_x_none [.inr (.inr (1, 0)), .inl x] σ K := by
  refine r_x_none hC (fun J hJ => ?_)
  refine hJ _ _ _ _ ?_
  conv => whnf
  exact h
theorem s_agree {CALL : CT} (hC : RuleAll CALL) {r : Nat} {σ : AM} {K : AV → AM → Prop}  (h : K (.inl (Int32.ofInt 1)) (wI σ 1 0 16 (Int32.ofInt 0))) : CALL (r + 1) n_x_agree [.inr (.inr (1, 0))] σ K := by
  refine r_x_agree hC (fun J hJ => ?_)
  refine hJ _ _ _ _ ?_
  conv => whnf
  exact ⟨Or.inr rfl, h⟩
theorem s_refuse {CALL : CT} (hC : RuleAll CALL) {r : Nat} {σ : AM} {K : AV → AM → Prop} {x : Int32} (h : K (.inl (Int32.ofInt 0)) (wI σ 1 0 16 x)) : CALL (r + 1) n_x_refuse [.inr (.inr (1, 0)), .inl x] σ K := by
  refine r_x_refuse hC (fun J hJ => ?_)
  refine hJ _ _ _ _ ?_
  conv => whnf
  exact ⟨Or.inl rfl, h⟩
theorem s_giveOrNone {CALL : CT} (hC : RuleAll CALL) {r : Nat} {σ : AM} {K : AV → AM → Prop} {z : Int} (h1 : -2147483648 ≤ z) (h2 : z < 2147483648) (h : K (.inl (Int32.ofInt z)) (wI σ 1 0 16 (Int32.ofInt (if z = -1 then 6 else 0)))) : CALL (r + 2) n_x_giveOrNone [.inr (.inr (1, 0)), .inl (Int32.ofInt z)] σ K := by
  refine r_x_giveOrNone hC (fun J hJ => ?_)
  refine hJ _ _ _ _ ?_
  conv => whnf
  refine ⟨fun c => ?_, fun c => ?_⟩
  · rw [oi_eq (by omega) (by omega) (by omega) (by omega)] at c
    refine hJ _ _ _ _ ?_
    conv => whnf
    refine s_give hC ?_
    conv => whnf
    refine hJ _ _ _ _ ?_
    conv => whnf
    rw [if_neg c] at h
    exact h
  · rw [oi_eq (by omega) (by omega) (by omega) (by omega)] at c
    conv => whnf
    refine s_none hC ?_
    conv => whnf
    refine hJ _ _ _ _ ?_
    conv => whnf
    rw [if_pos c, c] at h
    exact h
theorem s_m_gives {CALL : CT} (hC : RuleAll CALL) {r : Nat} {σ : AM} {K : AV → AM → Prop} {x : Int32} (h : K (.inl x) (wI σ 46 0 2 (Int32.ofInt 0))) : CALL (r + 1) n_m_gives [.inr (.inr (46, 0)), .inl x] σ K := by
  refine r_m_gives hC (fun J hJ => ?_)
  refine hJ _ _ _ _ ?_
  conv => whnf
  exact h
theorem s_m_refuse {CALL : CT} (hC : RuleAll CALL) {r : Nat} {σ : AM} {K : AV → AM → Prop} {x : Int32} (h : K (.inl (Int32.ofInt (-1))) (wI σ 46 0 2 x)) : CALL (r + 1) n_m_refuse [.inr (.inr (46, 0)), .inl x] σ K := by
  refine r_m_refuse hC (fun J hJ => ?_)
  refine hJ _ _ _ _ ?_
  conv => whnf
  exact h
theorem s_m_orNone {CALL : CT} (hC : RuleAll CALL) {r : Nat} {σ : AM} {K : AV → AM → Prop} {z : Int} (h1 : -2147483648 ≤ z) (h2 : z < 2147483648) (h : K (.inl (Int32.ofInt z)) (wI σ 46 0 2 (Int32.ofInt (if z = -1 then 6 else 0)))) : CALL (r + 2) n_m_orNone [.inr (.inr (46, 0)), .inl (Int32.ofInt z)] σ K := by
  refine r_m_orNone hC (fun J hJ => ?_)
  refine hJ _ _ _ _ ?_
  conv => whnf
  refine ⟨fun c => ?_, fun c => ?_⟩
  · rw [oi_eq (by omega) (by omega) (by omega) (by omega)] at c
    refine hJ _ _ _ _ ?_
    conv => whnf
    refine s_m_gives hC ?_
    conv => whnf
    refine hJ _ _ _ _ ?_
    conv => whnf
    rw [if_neg c] at h
    exact h
  · rw [oi_eq (by omega) (by omega) (by omega) (by omega)] at c
    conv => whnf
    refine s_m_refuse hC ?_
    conv => whnf
    refine hJ _ _ _ _ ?_
    conv => whnf
    rw [if_pos c, c] at h
    exact h
theorem s_isTopic {CALL : CT} (hC : RuleAll CALL) {r : Nat} {σ : AM} {K : AV → AM → Prop} {n : Nat} {h0 : Nat → Int} {z : Int} (hn : NH σ n h0) (h1 : -2147483648 ≤ z) (h2 : z < 2147483648) (h : K (.inl (bI (decide (0 ≤ z ∧ z < h0 0)))) σ) : CALL (r + 2) n_x_isTopic [.inr (.inr (1, 0)), .inl (Int32.ofInt z)] σ K := by
  refine r_x_isTopic hC (fun J hJ => ?_)
  refine hJ _ _ _ _ ?_
  conv => whnf
  obtain ⟨n45, hn, hr, hm, ⟨hw, -⟩, -⟩ := hn
  have b := hw.1
  rw [hn]
  refine ⟨by omega, ?_⟩
  conv => whnf
  rw [hr.1, oi_sub]
  refine s_within hC ?_
  conv => whnf
  have e : decide (Int32.ofInt 0 ≤ Int32.ofInt z ∧ Int32.ofInt z ≤ Int32.ofInt (h0 0 - 1)) = decide (0 ≤ z ∧ z < h0 0) := decide_eq_decide.mpr (by
    rw [oi_le (by omega) (by omega) (by omega) (by omega), oi_le (by omega) (by omega) (by omega) (by omega)]
    omega)
  rw [e]
  exact ⟨bI_01 _, h⟩
theorem s_isMonk {CALL : CT} (hC : RuleAll CALL) {r : Nat} {σ : AM} {K : AV → AM → Prop} {n : Nat} {h0 : Nat → Int} {z : Int} (hn : NH σ n h0) (h1 : -2147483648 ≤ z) (h2 : z < 2147483648) (h : K (.inl (bI (decide (0 ≤ z ∧ z < h0 1)))) σ) : CALL (r + 2) n_x_isMonk [.inr (.inr (1, 0)), .inl (Int32.ofInt z)] σ K := by
  refine r_x_isMonk hC (fun J hJ => ?_)
  refine hJ _ _ _ _ ?_
  conv => whnf
  obtain ⟨n45, hn, hr, hm, ⟨hw, -⟩, -⟩ := hn
  have b := hw.1
  rw [hn]
  refine ⟨by omega, ?_⟩
  conv => whnf
  rw [hr.2.1, oi_sub]
  refine s_within hC ?_
  conv => whnf
  have e : decide (Int32.ofInt 0 ≤ Int32.ofInt z ∧ Int32.ofInt z ≤ Int32.ofInt (h0 1 - 1)) = decide (0 ≤ z ∧ z < h0 1) := decide_eq_decide.mpr (by
    rw [oi_le (by omega) (by omega) (by omega) (by omega), oi_le (by omega) (by omega) (by omega) (by omega)]
    omega)
  rw [e]
  exact ⟨bI_01 _, h⟩
theorem s_m_isMonk {CALL : CT} (hC : RuleAll CALL) {r : Nat} {σ : AM} {K : AV → AM → Prop} {h0 : Nat → Int} {z : Int} (hm : M0 σ h0) (hw : WF h0) (h1 : -2147483648 ≤ z) (h2 : z < 2147483648) (h : K (.inl (bI (decide (0 ≤ z ∧ z < h0 1)))) σ) : CALL (r + 1) n_m_isMonk [.inr (.inr (46, 0)), .inl (Int32.ofInt z)] σ K := by
  refine r_m_isMonk hC (fun J hJ => ?_)
  refine hJ _ _ _ _ ?_
  conv => whnf
  have b := hw.1
  refine ⟨fun c => ?_, fun c => ?_⟩
  · rw [oi_lt0 (by omega) (by omega)] at c
    refine hJ _ _ _ _ ?_
    conv => whnf
    refine hJ _ _ _ _ ?_
    conv => whnf
    rw [show decide (0 ≤ z ∧ z < h0 1) = false from decide_eq_false (by omega)] at h
    exact ⟨Or.inl rfl, h⟩
  · rw [oi_lt0 (by omega) (by omega)] at c
    conv => whnf
    refine ⟨(oi_in (by omega) (by omega)).mpr ⟨by omega, by omega⟩, ?_⟩
    conv => whnf
    rw [show (Int32.ofInt 1).toNatClampNeg = 1 from rfl, hm 1 (by omega)]
    refine ⟨fun c2 => ?_, fun c2 => ?_⟩
    · rw [oi_le (by omega) (by omega) (by omega) (by omega)] at c2
      refine hJ _ _ _ _ ?_
      conv => whnf
      refine hJ _ _ _ _ ?_
      conv => whnf
      rw [show decide (0 ≤ z ∧ z < h0 1) = false from decide_eq_false (by omega)] at h
      exact ⟨Or.inl rfl, h⟩
    · rw [oi_le (by omega) (by omega) (by omega) (by omega)] at c2
      conv => whnf
      refine hJ _ _ _ _ ?_
      conv => whnf
      rw [show decide (0 ≤ z ∧ z < h0 1) = true from decide_eq_true (by omega)] at h
      exact ⟨Or.inr rfl, h⟩
theorem s_m_isTopic {CALL : CT} (hC : RuleAll CALL) {r : Nat} {σ : AM} {K : AV → AM → Prop} {h0 : Nat → Int} {z : Int} (hm : M0 σ h0) (hw : WF h0) (h1 : -9223372036854775808 ≤ z) (h2 : z < 9223372036854775808) (h : K (.inl (bI (decide (0 ≤ z ∧ z < h0 0)))) σ) : CALL (r + 1) n_m_isTopic [.inr (.inr (46, 0)), .inr (.inl (Int64.ofInt z))] σ K := by
  refine r_m_isTopic hC (fun J hJ => ?_)
  refine hJ _ _ _ _ ?_
  conv => whnf
  have b := hw.1
  refine ⟨fun c => ?_, fun c => ?_⟩
  · rw [lc_lt, ol_lt (by omega) (by omega) (by omega) (by omega)] at c
    refine hJ _ _ _ _ ?_
    conv => whnf
    refine hJ _ _ _ _ ?_
    conv => whnf
    rw [show decide (0 ≤ z ∧ z < h0 0) = false from decide_eq_false (by omega)] at h
    exact ⟨Or.inl rfl, h⟩
  · rw [lc_lt, ol_lt (by omega) (by omega) (by omega) (by omega)] at c
    conv => whnf
    refine ⟨(oi_in (by omega) (by omega)).mpr ⟨by omega, by omega⟩, ?_⟩
    conv => whnf
    rw [show (Int32.ofInt 0).toNatClampNeg = 0 from rfl, hm 0 (by omega), oi_l (by omega) (by omega)]
    refine ⟨fun c2 => ?_, fun c2 => ?_⟩
    · rw [lc_ge, ol_lt (by omega) (by omega) (by omega) (by omega)] at c2
      refine hJ _ _ _ _ ?_
      conv => whnf
      refine hJ _ _ _ _ ?_
      conv => whnf
      rw [show decide (0 ≤ z ∧ z < h0 0) = false from decide_eq_false (by omega)] at h
      exact ⟨Or.inl rfl, h⟩
    · rw [lc_ge, ol_lt (by omega) (by omega) (by omega) (by omega)] at c2
      conv => whnf
      refine hJ _ _ _ _ ?_
      conv => whnf
      rw [show decide (0 ≤ z ∧ z < h0 0) = true from decide_eq_true (by omega)] at h
      exact ⟨Or.inr rfl, h⟩
