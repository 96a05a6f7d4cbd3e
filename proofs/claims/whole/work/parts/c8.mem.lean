/-! both objects are made: their cells as a memory -/
def trm : Nat → Int32 := upd (upd (upd (upd (fun _ => 0) 0 (-1)) 1 (-1)) 2 (-1)) 3 (-1)
def IF0 (t : Nat) : Nat → Int32 := bif Nat.beq t 22 then (fun j => bif Nat.beq j 5 then 10 else bif Nat.beq j 6 then 1 else bif Nat.beq j 11 then -1 else 0) else bif Nat.beq t 3 then (fun j => bif Nat.beq j 3 then -1 else bif Nat.beq j 4 then -1 else 0) else bif Nat.beq t 46 then (fun j => bif Nat.beq j 16 then -1 else bif Nat.beq j 17 then -1 else 0) else bif Nat.beq t 50 then trm else fun _ => 0
def LF0 (t : Nat) : Nat → Int64 := bif Nat.beq t 5 then (kwSt 133).2 else bif Nat.beq t 1 then (fun j => bif Nat.beq j 18 then 1 else 0) else bif Nat.beq t 46 then (fun j => bif Nat.beq j 4 then 1 else 0) else fun _ => 0
def RF0 (t j : Nat) : Nat := bif Nat.beq t 1 then (bif Nat.beq j 11 then 4 else bif Nat.beq j 12 then 5 else bif Nat.beq j 13 then 0 else bif Nat.beq j 14 then 1 else 99) else 99
def sg0 : AM := (fun t _ => IF0 t, fun t _ => LF0 t, fun t _ => RF0 t)
/-- where a cell stands among those of the class -/
def ixS (t i : Nat) : Nat := bif Nat.ble t 15 then t - 1 else bif Nat.ble t 18 then t + 59 else bif Nat.ble t 20 then 78 + 2 * i + (t - 19) else bif Nat.beq t 21 then 82 else bif Nat.ble t 36 then (bif Nat.ble i 3 then 15 + 15 * i else bif Nat.ble i 5 then 83 + 15 * (i - 4) else 135 + 22 * (i - 6)) + (t - 22) else bif Nat.ble t 43 then (bif Nat.ble i 1 then 113 + 7 * i else 150 + 22 * (i - 2)) + (t - 37) else 127 + 2 * i + (t - 44)
def adW (a b adK : Nat → Nat) (q : Nat × Nat) : Nat := bif Nat.beq q.1 67 then adK q.2 else bif Nat.ble 46 q.1 then b (q.1 - 46) else a (ixS q.1 q.2)
def pW (q : Nat × Nat) : Nat := bif Nat.ble 46 q.1 then 201 + (q.1 - 46) else ixS q.1 q.2
theorem va_at_q {D : va_G} {cl : List vw_C} {q n : Nat} {c : ClassId} {f g : Nat → Option Nat} {H : Heap} (h : va_at D cl (q, .inl (c, n, .inr (.inr (.inr (.inr f))))) H) (e : ∀ j, j < n → f j = g j) : va_at D cl (q, .inl (c, n, .inr (.inr (.inr (.inr g))))) H := by
  have h : H[q]? = some (vp_cell c (n, .inr (.inr (.inr (.inr f))))) := h
  show H[q]? = some (vp_cell c (n, .inr (.inr (.inr (.inr g)))))
  rw [h, vp_cell_q, vp_cell_q]
  unfold arrV
  congr 3
  funext j
  show va_rf (f j.val) = va_rf (g j.val)
  rw [e j.val j.isLt]
theorem va_P_l {D : va_G} {cl : List vw_C} {w1 w2 : va_W} {H : Heap} (h : va_P D cl (w1 ++ w2) H) : va_P D cl w1 H := fun k q hk => h k q (by rw [List.getElem?_append_left (List.getElem?_eq_some_iff.mp hk).1]; exact hk)
theorem va_P_r {D : va_G} {cl : List vw_C} {w1 w2 : va_W} {H : Heap} (h : va_P D cl (w1 ++ w2) H) : va_P D cl w2 H := fun k q hk => h (w1.length + k) q (by rw [apx_at]; exact hk)
section W0
variable {D : va_G} {cA : Nat → ClassId} {a b adK : Nat → Nat} {H : Heap}
theorem w0_1 (h : va_P D clA (z_ST cA a) H) : ∀ i, i < cn 1 → va_at D clA (adW a b adK (1, i), cellOf (adW a b adK) cA sg0 (1, i)) H
  | 0, _ => h 0 _ rfl
  | i + 1, h9 => absurd h9 (by show ¬ (i + 1 < 1); omega)
theorem w0_2 (h : va_P D clA (z_ST cA a) H) : ∀ i, i < cn 2 → va_at D clA (adW a b adK (2, i), cellOf (adW a b adK) cA sg0 (2, i)) H
  | 0, _ => va_at_q (h 1 _ rfl) (fun j hj => match j, hj with | 0, _ => rfl | 1, _ => rfl | 2, _ => rfl | 3, _ => rfl | j + 4, hj => absurd hj (by omega))
  | i + 1, h9 => absurd h9 (by show ¬ (i + 1 < 1); omega)
theorem w0_3 (h : va_P D clA (z_ST cA a) H) : ∀ i, i < cn 3 → va_at D clA (adW a b adK (3, i), cellOf (adW a b adK) cA sg0 (3, i)) H
  | 0, _ => h 2 _ rfl
  | i + 1, h9 => absurd h9 (by show ¬ (i + 1 < 1); omega)
theorem w0_4 (h : va_P D clA (z_ST cA a) H) : ∀ i, i < cn 4 → va_at D clA (adW a b adK (4, i), cellOf (adW a b adK) cA sg0 (4, i)) H
  | 0, _ => h 3 _ rfl
  | i + 1, h9 => absurd h9 (by show ¬ (i + 1 < 1); omega)
theorem w0_5 (h : va_P D clA (z_ST cA a) H) : ∀ i, i < cn 5 → va_at D clA (adW a b adK (5, i), cellOf (adW a b adK) cA sg0 (5, i)) H
  | 0, _ => h 4 _ rfl
  | i + 1, h9 => absurd h9 (by show ¬ (i + 1 < 1); omega)
theorem w0_6 (h : va_P D clA (z_ST cA a) H) : ∀ i, i < cn 6 → va_at D clA (adW a b adK (6, i), cellOf (adW a b adK) cA sg0 (6, i)) H
  | 0, _ => h 5 _ rfl
  | i + 1, h9 => absurd h9 (by show ¬ (i + 1 < 1); omega)
theorem w0_7 (h : va_P D clA (z_ST cA a) H) : ∀ i, i < cn 7 → va_at D clA (adW a b adK (7, i), cellOf (adW a b adK) cA sg0 (7, i)) H
  | 0, _ => h 6 _ rfl
  | i + 1, h9 => absurd h9 (by show ¬ (i + 1 < 1); omega)
theorem w0_8 (h : va_P D clA (z_ST cA a) H) : ∀ i, i < cn 8 → va_at D clA (adW a b adK (8, i), cellOf (adW a b adK) cA sg0 (8, i)) H
  | 0, _ => h 7 _ rfl
  | i + 1, h9 => absurd h9 (by show ¬ (i + 1 < 1); omega)
theorem w0_9 (h : va_P D clA (z_ST cA a) H) : ∀ i, i < cn 9 → va_at D clA (adW a b adK (9, i), cellOf (adW a b adK) cA sg0 (9, i)) H
  | 0, _ => va_at_q (h 8 _ rfl) (fun j hj => match j, hj with | 0, _ => rfl | 1, _ => rfl | 2, _ => rfl | j + 3, hj => absurd hj (by omega))
  | i + 1, h9 => absurd h9 (by show ¬ (i + 1 < 1); omega)
theorem w0_10 (h : va_P D clA (z_ST cA a) H) : ∀ i, i < cn 10 → va_at D clA (adW a b adK (10, i), cellOf (adW a b adK) cA sg0 (10, i)) H
  | 0, _ => va_at_q (h 9 _ rfl) (fun j hj => match j, hj with | 0, _ => rfl | 1, _ => rfl | 2, _ => rfl | j + 3, hj => absurd hj (by omega))
  | i + 1, h9 => absurd h9 (by show ¬ (i + 1 < 1); omega)
theorem w0_11 (h : va_P D clA (z_ST cA a) H) : ∀ i, i < cn 11 → va_at D clA (adW a b adK (11, i), cellOf (adW a b adK) cA sg0 (11, i)) H
  | 0, _ => h 10 _ rfl
  | i + 1, h9 => absurd h9 (by show ¬ (i + 1 < 1); omega)
theorem w0_12 (h : va_P D clA (z_ST cA a) H) : ∀ i, i < cn 12 → va_at D clA (adW a b adK (12, i), cellOf (adW a b adK) cA sg0 (12, i)) H
  | 0, _ => va_at_q (h 11 _ rfl) (fun j hj => match j, hj with | 0, _ => rfl | 1, _ => rfl | 2, _ => rfl | 3, _ => rfl | j + 4, hj => absurd hj (by omega))
  | i + 1, h9 => absurd h9 (by show ¬ (i + 1 < 1); omega)
theorem w0_13 (h : va_P D clA (z_ST cA a) H) : ∀ i, i < cn 13 → va_at D clA (adW a b adK (13, i), cellOf (adW a b adK) cA sg0 (13, i)) H
  | 0, _ => h 12 _ rfl
  | i + 1, h9 => absurd h9 (by show ¬ (i + 1 < 1); omega)
theorem w0_14 (h : va_P D clA (z_ST cA a) H) : ∀ i, i < cn 14 → va_at D clA (adW a b adK (14, i), cellOf (adW a b adK) cA sg0 (14, i)) H
  | 0, _ => h 13 _ rfl
  | i + 1, h9 => absurd h9 (by show ¬ (i + 1 < 1); omega)
theorem w0_15 (h : va_P D clA (z_ST cA a) H) : ∀ i, i < cn 15 → va_at D clA (adW a b adK (15, i), cellOf (adW a b adK) cA sg0 (15, i)) H
  | 0, _ => h 14 _ rfl
  | i + 1, h9 => absurd h9 (by show ¬ (i + 1 < 1); omega)
theorem w0_16 (h : va_P D clA (z_ST cA a) H) : ∀ i, i < cn 16 → va_at D clA (adW a b adK (16, i), cellOf (adW a b adK) cA sg0 (16, i)) H
  | 0, _ => h 75 _ rfl
  | i + 1, h9 => absurd h9 (by show ¬ (i + 1 < 1); omega)
theorem w0_17 (h : va_P D clA (z_ST cA a) H) : ∀ i, i < cn 17 → va_at D clA (adW a b adK (17, i), cellOf (adW a b adK) cA sg0 (17, i)) H
  | 0, _ => h 76 _ rfl
  | i + 1, h9 => absurd h9 (by show ¬ (i + 1 < 1); omega)
theorem w0_18 (h : va_P D clA (z_ST cA a) H) : ∀ i, i < cn 18 → va_at D clA (adW a b adK (18, i), cellOf (adW a b adK) cA sg0 (18, i)) H
  | 0, _ => h 77 _ rfl
  | i + 1, h9 => absurd h9 (by show ¬ (i + 1 < 1); omega)
theorem w0_19 (h : va_P D clA (z_ST cA a) H) : ∀ i, i < cn 19 → va_at D clA (adW a b adK (19, i), cellOf (adW a b adK) cA sg0 (19, i)) H
  | 0, _ => h 78 _ rfl
  | 1, _ => h 80 _ rfl
  | i + 2, h9 => absurd h9 (by show ¬ (i + 2 < 2); omega)
theorem w0_20 (h : va_P D clA (z_ST cA a) H) : ∀ i, i < cn 20 → va_at D clA (adW a b adK (20, i), cellOf (adW a b adK) cA sg0 (20, i)) H
  | 0, _ => h 79 _ rfl
  | 1, _ => h 81 _ rfl
  | i + 2, h9 => absurd h9 (by show ¬ (i + 2 < 2); omega)
theorem w0_21 (h : va_P D clA (z_ST cA a) H) : ∀ i, i < cn 21 → va_at D clA (adW a b adK (21, i), cellOf (adW a b adK) cA sg0 (21, i)) H
  | 0, _ => h 82 _ rfl
  | i + 1, h9 => absurd h9 (by show ¬ (i + 1 < 1); omega)
theorem w0_22 (h : va_P D clA (z_ST cA a) H) : ∀ i, i < cn 22 → va_at D clA (adW a b adK (22, i), cellOf (adW a b adK) cA sg0 (22, i)) H
  | 0, _ => h 15 _ rfl
  | 1, _ => h 30 _ rfl
  | 2, _ => h 45 _ rfl
  | 3, _ => h 60 _ rfl
  | 4, _ => h 83 _ rfl
  | 5, _ => h 98 _ rfl
  | 6, _ => h 135 _ rfl
  | 7, _ => h 157 _ rfl
  | 8, _ => h 179 _ rfl
  | i + 9, h9 => absurd h9 (by show ¬ (i + 9 < 9); omega)
theorem w0_23 (h : va_P D clA (z_ST cA a) H) : ∀ i, i < cn 23 → va_at D clA (adW a b adK (23, i), cellOf (adW a b adK) cA sg0 (23, i)) H
  | 0, _ => h 16 _ rfl
  | 1, _ => h 31 _ rfl
  | 2, _ => h 46 _ rfl
  | 3, _ => h 61 _ rfl
  | 4, _ => h 84 _ rfl
  | 5, _ => h 99 _ rfl
  | 6, _ => h 136 _ rfl
  | 7, _ => h 158 _ rfl
  | 8, _ => h 180 _ rfl
  | i + 9, h9 => absurd h9 (by show ¬ (i + 9 < 9); omega)
theorem w0_24 (h : va_P D clA (z_ST cA a) H) : ∀ i, i < cn 24 → va_at D clA (adW a b adK (24, i), cellOf (adW a b adK) cA sg0 (24, i)) H
  | 0, _ => h 17 _ rfl
  | 1, _ => h 32 _ rfl
  | 2, _ => h 47 _ rfl
  | 3, _ => h 62 _ rfl
  | 4, _ => h 85 _ rfl
  | 5, _ => h 100 _ rfl
  | 6, _ => h 137 _ rfl
  | 7, _ => h 159 _ rfl
  | 8, _ => h 181 _ rfl
  | i + 9, h9 => absurd h9 (by show ¬ (i + 9 < 9); omega)
theorem w0_25 (h : va_P D clA (z_ST cA a) H) : ∀ i, i < cn 25 → va_at D clA (adW a b adK (25, i), cellOf (adW a b adK) cA sg0 (25, i)) H
  | 0, _ => h 18 _ rfl
  | 1, _ => h 33 _ rfl
  | 2, _ => h 48 _ rfl
  | 3, _ => h 63 _ rfl
  | 4, _ => h 86 _ rfl
  | 5, _ => h 101 _ rfl
  | 6, _ => h 138 _ rfl
  | 7, _ => h 160 _ rfl
  | 8, _ => h 182 _ rfl
  | i + 9, h9 => absurd h9 (by show ¬ (i + 9 < 9); omega)
theorem w0_26 (h : va_P D clA (z_ST cA a) H) : ∀ i, i < cn 26 → va_at D clA (adW a b adK (26, i), cellOf (adW a b adK) cA sg0 (26, i)) H
  | 0, _ => h 19 _ rfl
  | 1, _ => h 34 _ rfl
  | 2, _ => h 49 _ rfl
  | 3, _ => h 64 _ rfl
  | 4, _ => h 87 _ rfl
  | 5, _ => h 102 _ rfl
  | 6, _ => h 139 _ rfl
  | 7, _ => h 161 _ rfl
  | 8, _ => h 183 _ rfl
  | i + 9, h9 => absurd h9 (by show ¬ (i + 9 < 9); omega)
theorem w0_27 (h : va_P D clA (z_ST cA a) H) : ∀ i, i < cn 27 → va_at D clA (adW a b adK (27, i), cellOf (adW a b adK) cA sg0 (27, i)) H
  | 0, _ => h 20 _ rfl
  | 1, _ => h 35 _ rfl
  | 2, _ => h 50 _ rfl
  | 3, _ => h 65 _ rfl
  | 4, _ => h 88 _ rfl
  | 5, _ => h 103 _ rfl
  | 6, _ => h 140 _ rfl
  | 7, _ => h 162 _ rfl
  | 8, _ => h 184 _ rfl
  | i + 9, h9 => absurd h9 (by show ¬ (i + 9 < 9); omega)
theorem w0_28 (h : va_P D clA (z_ST cA a) H) : ∀ i, i < cn 28 → va_at D clA (adW a b adK (28, i), cellOf (adW a b adK) cA sg0 (28, i)) H
  | 0, _ => h 21 _ rfl
  | 1, _ => h 36 _ rfl
  | 2, _ => h 51 _ rfl
  | 3, _ => h 66 _ rfl
  | 4, _ => h 89 _ rfl
  | 5, _ => h 104 _ rfl
  | 6, _ => h 141 _ rfl
  | 7, _ => h 163 _ rfl
  | 8, _ => h 185 _ rfl
  | i + 9, h9 => absurd h9 (by show ¬ (i + 9 < 9); omega)
theorem w0_29 (h : va_P D clA (z_ST cA a) H) : ∀ i, i < cn 29 → va_at D clA (adW a b adK (29, i), cellOf (adW a b adK) cA sg0 (29, i)) H
  | 0, _ => h 22 _ rfl
  | 1, _ => h 37 _ rfl
  | 2, _ => h 52 _ rfl
  | 3, _ => h 67 _ rfl
  | 4, _ => h 90 _ rfl
  | 5, _ => h 105 _ rfl
  | 6, _ => h 142 _ rfl
  | 7, _ => h 164 _ rfl
  | 8, _ => h 186 _ rfl
  | i + 9, h9 => absurd h9 (by show ¬ (i + 9 < 9); omega)
theorem w0_30 (h : va_P D clA (z_ST cA a) H) : ∀ i, i < cn 30 → va_at D clA (adW a b adK (30, i), cellOf (adW a b adK) cA sg0 (30, i)) H
  | 0, _ => h 23 _ rfl
  | 1, _ => h 38 _ rfl
  | 2, _ => h 53 _ rfl
  | 3, _ => h 68 _ rfl
  | 4, _ => h 91 _ rfl
  | 5, _ => h 106 _ rfl
  | 6, _ => h 143 _ rfl
  | 7, _ => h 165 _ rfl
  | 8, _ => h 187 _ rfl
  | i + 9, h9 => absurd h9 (by show ¬ (i + 9 < 9); omega)
theorem w0_31 (h : va_P D clA (z_ST cA a) H) : ∀ i, i < cn 31 → va_at D clA (adW a b adK (31, i), cellOf (adW a b adK) cA sg0 (31, i)) H
  | 0, _ => h 24 _ rfl
  | 1, _ => h 39 _ rfl
  | 2, _ => h 54 _ rfl
  | 3, _ => h 69 _ rfl
  | 4, _ => h 92 _ rfl
  | 5, _ => h 107 _ rfl
  | 6, _ => h 144 _ rfl
  | 7, _ => h 166 _ rfl
  | 8, _ => h 188 _ rfl
  | i + 9, h9 => absurd h9 (by show ¬ (i + 9 < 9); omega)
theorem w0_32 (h : va_P D clA (z_ST cA a) H) : ∀ i, i < cn 32 → va_at D clA (adW a b adK (32, i), cellOf (adW a b adK) cA sg0 (32, i)) H
  | 0, _ => h 25 _ rfl
  | 1, _ => h 40 _ rfl
  | 2, _ => h 55 _ rfl
  | 3, _ => h 70 _ rfl
  | 4, _ => h 93 _ rfl
  | 5, _ => h 108 _ rfl
  | 6, _ => h 145 _ rfl
  | 7, _ => h 167 _ rfl
  | 8, _ => h 189 _ rfl
  | i + 9, h9 => absurd h9 (by show ¬ (i + 9 < 9); omega)
theorem w0_33 (h : va_P D clA (z_ST cA a) H) : ∀ i, i < cn 33 → va_at D clA (adW a b adK (33, i), cellOf (adW a b adK) cA sg0 (33, i)) H
  | 0, _ => h 26 _ rfl
  | 1, _ => h 41 _ rfl
  | 2, _ => h 56 _ rfl
  | 3, _ => h 71 _ rfl
  | 4, _ => h 94 _ rfl
  | 5, _ => h 109 _ rfl
  | 6, _ => h 146 _ rfl
  | 7, _ => h 168 _ rfl
  | 8, _ => h 190 _ rfl
  | i + 9, h9 => absurd h9 (by show ¬ (i + 9 < 9); omega)
theorem w0_34 (h : va_P D clA (z_ST cA a) H) : ∀ i, i < cn 34 → va_at D clA (adW a b adK (34, i), cellOf (adW a b adK) cA sg0 (34, i)) H
  | 0, _ => h 27 _ rfl
  | 1, _ => h 42 _ rfl
  | 2, _ => h 57 _ rfl
  | 3, _ => h 72 _ rfl
  | 4, _ => h 95 _ rfl
  | 5, _ => h 110 _ rfl
  | 6, _ => h 147 _ rfl
  | 7, _ => h 169 _ rfl
  | 8, _ => h 191 _ rfl
  | i + 9, h9 => absurd h9 (by show ¬ (i + 9 < 9); omega)
theorem w0_35 (h : va_P D clA (z_ST cA a) H) : ∀ i, i < cn 35 → va_at D clA (adW a b adK (35, i), cellOf (adW a b adK) cA sg0 (35, i)) H
  | 0, _ => h 28 _ rfl
  | 1, _ => h 43 _ rfl
  | 2, _ => h 58 _ rfl
  | 3, _ => h 73 _ rfl
  | 4, _ => h 96 _ rfl
  | 5, _ => h 111 _ rfl
  | 6, _ => h 148 _ rfl
  | 7, _ => h 170 _ rfl
  | 8, _ => h 192 _ rfl
  | i + 9, h9 => absurd h9 (by show ¬ (i + 9 < 9); omega)
theorem w0_36 (h : va_P D clA (z_ST cA a) H) : ∀ i, i < cn 36 → va_at D clA (adW a b adK (36, i), cellOf (adW a b adK) cA sg0 (36, i)) H
  | 0, _ => h 29 _ rfl
  | 1, _ => h 44 _ rfl
  | 2, _ => h 59 _ rfl
  | 3, _ => h 74 _ rfl
  | 4, _ => h 97 _ rfl
  | 5, _ => h 112 _ rfl
  | 6, _ => h 149 _ rfl
  | 7, _ => h 171 _ rfl
  | 8, _ => h 193 _ rfl
  | i + 9, h9 => absurd h9 (by show ¬ (i + 9 < 9); omega)
theorem w0_37 (h : va_P D clA (z_ST cA a) H) : ∀ i, i < cn 37 → va_at D clA (adW a b adK (37, i), cellOf (adW a b adK) cA sg0 (37, i)) H
  | 0, _ => h 113 _ rfl
  | 1, _ => h 120 _ rfl
  | 2, _ => h 150 _ rfl
  | 3, _ => h 172 _ rfl
  | 4, _ => h 194 _ rfl
  | i + 5, h9 => absurd h9 (by show ¬ (i + 5 < 5); omega)
theorem w0_38 (h : va_P D clA (z_ST cA a) H) : ∀ i, i < cn 38 → va_at D clA (adW a b adK (38, i), cellOf (adW a b adK) cA sg0 (38, i)) H
  | 0, _ => h 114 _ rfl
  | 1, _ => h 121 _ rfl
  | 2, _ => h 151 _ rfl
  | 3, _ => h 173 _ rfl
  | 4, _ => h 195 _ rfl
  | i + 5, h9 => absurd h9 (by show ¬ (i + 5 < 5); omega)
theorem w0_39 (h : va_P D clA (z_ST cA a) H) : ∀ i, i < cn 39 → va_at D clA (adW a b adK (39, i), cellOf (adW a b adK) cA sg0 (39, i)) H
  | 0, _ => h 115 _ rfl
  | 1, _ => h 122 _ rfl
  | 2, _ => h 152 _ rfl
  | 3, _ => h 174 _ rfl
  | 4, _ => h 196 _ rfl
  | i + 5, h9 => absurd h9 (by show ¬ (i + 5 < 5); omega)
theorem w0_40 (h : va_P D clA (z_ST cA a) H) : ∀ i, i < cn 40 → va_at D clA (adW a b adK (40, i), cellOf (adW a b adK) cA sg0 (40, i)) H
  | 0, _ => h 116 _ rfl
  | 1, _ => h 123 _ rfl
  | 2, _ => h 153 _ rfl
  | 3, _ => h 175 _ rfl
  | 4, _ => h 197 _ rfl
  | i + 5, h9 => absurd h9 (by show ¬ (i + 5 < 5); omega)
theorem w0_41 (h : va_P D clA (z_ST cA a) H) : ∀ i, i < cn 41 → va_at D clA (adW a b adK (41, i), cellOf (adW a b adK) cA sg0 (41, i)) H
  | 0, _ => h 117 _ rfl
  | 1, _ => h 124 _ rfl
  | 2, _ => h 154 _ rfl
  | 3, _ => h 176 _ rfl
  | 4, _ => h 198 _ rfl
  | i + 5, h9 => absurd h9 (by show ¬ (i + 5 < 5); omega)
theorem w0_42 (h : va_P D clA (z_ST cA a) H) : ∀ i, i < cn 42 → va_at D clA (adW a b adK (42, i), cellOf (adW a b adK) cA sg0 (42, i)) H
  | 0, _ => h 118 _ rfl
  | 1, _ => h 125 _ rfl
  | 2, _ => h 155 _ rfl
  | 3, _ => h 177 _ rfl
  | 4, _ => h 199 _ rfl
  | i + 5, h9 => absurd h9 (by show ¬ (i + 5 < 5); omega)
theorem w0_43 (h : va_P D clA (z_ST cA a) H) : ∀ i, i < cn 43 → va_at D clA (adW a b adK (43, i), cellOf (adW a b adK) cA sg0 (43, i)) H
  | 0, _ => h 119 _ rfl
  | 1, _ => h 126 _ rfl
  | 2, _ => h 156 _ rfl
  | 3, _ => h 178 _ rfl
  | 4, _ => h 200 _ rfl
  | i + 5, h9 => absurd h9 (by show ¬ (i + 5 < 5); omega)
theorem w0_44 (h : va_P D clA (z_ST cA a) H) : ∀ i, i < cn 44 → va_at D clA (adW a b adK (44, i), cellOf (adW a b adK) cA sg0 (44, i)) H
  | 0, _ => h 127 _ rfl
  | 1, _ => h 129 _ rfl
  | 2, _ => h 131 _ rfl
  | 3, _ => h 133 _ rfl
  | i + 4, h9 => absurd h9 (by show ¬ (i + 4 < 4); omega)
theorem w0_45 (h : va_P D clA (z_ST cA a) H) : ∀ i, i < cn 45 → va_at D clA (adW a b adK (45, i), cellOf (adW a b adK) cA sg0 (45, i)) H
  | 0, _ => h 128 _ rfl
  | 1, _ => h 130 _ rfl
  | 2, _ => h 132 _ rfl
  | 3, _ => h 134 _ rfl
  | i + 4, h9 => absurd h9 (by show ¬ (i + 4 < 4); omega)
theorem w0_46 (h : va_P D clA (z_Model cA b) H) : ∀ i, i < cn 46 → va_at D clA (adW a b adK (46, i), cellOf (adW a b adK) cA sg0 (46, i)) H
  | 0, _ => h 0 _ rfl
  | i + 1, h9 => absurd h9 (by show ¬ (i + 1 < 1); omega)
theorem w0_47 (h : va_P D clA (z_Model cA b) H) : ∀ i, i < cn 47 → va_at D clA (adW a b adK (47, i), cellOf (adW a b adK) cA sg0 (47, i)) H
  | 0, _ => h 1 _ rfl
  | i + 1, h9 => absurd h9 (by show ¬ (i + 1 < 1); omega)
theorem w0_48 (h : va_P D clA (z_Model cA b) H) : ∀ i, i < cn 48 → va_at D clA (adW a b adK (48, i), cellOf (adW a b adK) cA sg0 (48, i)) H
  | 0, _ => h 2 _ rfl
  | i + 1, h9 => absurd h9 (by show ¬ (i + 1 < 1); omega)
theorem w0_49 (h : va_P D clA (z_Model cA b) H) : ∀ i, i < cn 49 → va_at D clA (adW a b adK (49, i), cellOf (adW a b adK) cA sg0 (49, i)) H
  | 0, _ => h 3 _ rfl
  | i + 1, h9 => absurd h9 (by show ¬ (i + 1 < 1); omega)
theorem w0_50 (h : va_P D clA (z_Model cA b) H) : ∀ i, i < cn 50 → va_at D clA (adW a b adK (50, i), cellOf (adW a b adK) cA sg0 (50, i)) H
  | 0, _ => h 4 _ rfl
  | i + 1, h9 => absurd h9 (by show ¬ (i + 1 < 1); omega)
theorem w0_51 (h : va_P D clA (z_Model cA b) H) : ∀ i, i < cn 51 → va_at D clA (adW a b adK (51, i), cellOf (adW a b adK) cA sg0 (51, i)) H
  | 0, _ => h 5 _ rfl
  | i + 1, h9 => absurd h9 (by show ¬ (i + 1 < 1); omega)
theorem w0_52 (h : va_P D clA (z_Model cA b) H) : ∀ i, i < cn 52 → va_at D clA (adW a b adK (52, i), cellOf (adW a b adK) cA sg0 (52, i)) H
  | 0, _ => h 6 _ rfl
  | i + 1, h9 => absurd h9 (by show ¬ (i + 1 < 1); omega)
theorem w0_53 (h : va_P D clA (z_Model cA b) H) : ∀ i, i < cn 53 → va_at D clA (adW a b adK (53, i), cellOf (adW a b adK) cA sg0 (53, i)) H
  | 0, _ => h 7 _ rfl
  | i + 1, h9 => absurd h9 (by show ¬ (i + 1 < 1); omega)
theorem w0_54 (h : va_P D clA (z_Model cA b) H) : ∀ i, i < cn 54 → va_at D clA (adW a b adK (54, i), cellOf (adW a b adK) cA sg0 (54, i)) H
  | 0, _ => h 8 _ rfl
  | i + 1, h9 => absurd h9 (by show ¬ (i + 1 < 1); omega)
theorem w0_55 (h : va_P D clA (z_Model cA b) H) : ∀ i, i < cn 55 → va_at D clA (adW a b adK (55, i), cellOf (adW a b adK) cA sg0 (55, i)) H
  | 0, _ => h 9 _ rfl
  | i + 1, h9 => absurd h9 (by show ¬ (i + 1 < 1); omega)
theorem w0_56 (h : va_P D clA (z_Model cA b) H) : ∀ i, i < cn 56 → va_at D clA (adW a b adK (56, i), cellOf (adW a b adK) cA sg0 (56, i)) H
  | 0, _ => h 10 _ rfl
  | i + 1, h9 => absurd h9 (by show ¬ (i + 1 < 1); omega)
theorem w0_57 (h : va_P D clA (z_Model cA b) H) : ∀ i, i < cn 57 → va_at D clA (adW a b adK (57, i), cellOf (adW a b adK) cA sg0 (57, i)) H
  | 0, _ => h 11 _ rfl
  | i + 1, h9 => absurd h9 (by show ¬ (i + 1 < 1); omega)
theorem w0_58 (h : va_P D clA (z_Model cA b) H) : ∀ i, i < cn 58 → va_at D clA (adW a b adK (58, i), cellOf (adW a b adK) cA sg0 (58, i)) H
  | 0, _ => h 12 _ rfl
  | i + 1, h9 => absurd h9 (by show ¬ (i + 1 < 1); omega)
theorem w0_59 (h : va_P D clA (z_Model cA b) H) : ∀ i, i < cn 59 → va_at D clA (adW a b adK (59, i), cellOf (adW a b adK) cA sg0 (59, i)) H
  | 0, _ => h 13 _ rfl
  | i + 1, h9 => absurd h9 (by show ¬ (i + 1 < 1); omega)
theorem w0_60 (h : va_P D clA (z_Model cA b) H) : ∀ i, i < cn 60 → va_at D clA (adW a b adK (60, i), cellOf (adW a b adK) cA sg0 (60, i)) H
  | 0, _ => h 14 _ rfl
  | i + 1, h9 => absurd h9 (by show ¬ (i + 1 < 1); omega)
theorem w0_61 (h : va_P D clA (z_Model cA b) H) : ∀ i, i < cn 61 → va_at D clA (adW a b adK (61, i), cellOf (adW a b adK) cA sg0 (61, i)) H
  | 0, _ => h 15 _ rfl
  | i + 1, h9 => absurd h9 (by show ¬ (i + 1 < 1); omega)
theorem w0_62 (h : va_P D clA (z_Model cA b) H) : ∀ i, i < cn 62 → va_at D clA (adW a b adK (62, i), cellOf (adW a b adK) cA sg0 (62, i)) H
  | 0, _ => h 16 _ rfl
  | i + 1, h9 => absurd h9 (by show ¬ (i + 1 < 1); omega)
theorem w0_63 (h : va_P D clA (z_Model cA b) H) : ∀ i, i < cn 63 → va_at D clA (adW a b adK (63, i), cellOf (adW a b adK) cA sg0 (63, i)) H
  | 0, _ => h 17 _ rfl
  | i + 1, h9 => absurd h9 (by show ¬ (i + 1 < 1); omega)
theorem w0_64 (h : va_P D clA (z_Model cA b) H) : ∀ i, i < cn 64 → va_at D clA (adW a b adK (64, i), cellOf (adW a b adK) cA sg0 (64, i)) H
  | 0, _ => h 18 _ rfl
  | i + 1, h9 => absurd h9 (by show ¬ (i + 1 < 1); omega)
theorem w0_65 (h : va_P D clA (z_Model cA b) H) : ∀ i, i < cn 65 → va_at D clA (adW a b adK (65, i), cellOf (adW a b adK) cA sg0 (65, i)) H
  | 0, _ => h 19 _ rfl
  | i + 1, h9 => absurd h9 (by show ¬ (i + 1 < 1); omega)
theorem w0_66 (h : va_P D clA (z_Model cA b) H) : ∀ i, i < cn 66 → va_at D clA (adW a b adK (66, i), cellOf (adW a b adK) cA sg0 (66, i)) H
  | 0, _ => h 20 _ rfl
  | i + 1, h9 => absurd h9 (by show ¬ (i + 1 < 1); omega)
theorem w0_all (h1 : va_P D clA (z_ST cA a) H) (h2 : va_P D clA (z_Model cA b) H) : ∀ t, t < 67 → ∀ i, i < cn t → va_at D clA (adW a b adK (t, i), cellOf (adW a b adK) cA sg0 (t, i)) H
  | 0, _, i, h => absurd h (Nat.not_lt_zero i)
  | 1, _, i, h => w0_1 h1 i h
  | 2, _, i, h => w0_2 h1 i h
  | 3, _, i, h => w0_3 h1 i h
  | 4, _, i, h => w0_4 h1 i h
  | 5, _, i, h => w0_5 h1 i h
  | 6, _, i, h => w0_6 h1 i h
  | 7, _, i, h => w0_7 h1 i h
  | 8, _, i, h => w0_8 h1 i h
  | 9, _, i, h => w0_9 h1 i h
  | 10, _, i, h => w0_10 h1 i h
  | 11, _, i, h => w0_11 h1 i h
  | 12, _, i, h => w0_12 h1 i h
  | 13, _, i, h => w0_13 h1 i h
  | 14, _, i, h => w0_14 h1 i h
  | 15, _, i, h => w0_15 h1 i h
  | 16, _, i, h => w0_16 h1 i h
  | 17, _, i, h => w0_17 h1 i h
  | 18, _, i, h => w0_18 h1 i h
  | 19, _, i, h => w0_19 h1 i h
  | 20, _, i, h => w0_20 h1 i h
  | 21, _, i, h => w0_21 h1 i h
  | 22, _, i, h => w0_22 h1 i h
  | 23, _, i, h => w0_23 h1 i h
  | 24, _, i, h => w0_24 h1 i h
  | 25, _, i, h => w0_25 h1 i h
  | 26, _, i, h => w0_26 h1 i h
  | 27, _, i, h => w0_27 h1 i h
  | 28, _, i, h => w0_28 h1 i h
  | 29, _, i, h => w0_29 h1 i h
  | 30, _, i, h => w0_30 h1 i h
  | 31, _, i, h => w0_31 h1 i h
  | 32, _, i, h => w0_32 h1 i h
  | 33, _, i, h => w0_33 h1 i h
  | 34, _, i, h => w0_34 h1 i h
  | 35, _, i, h => w0_35 h1 i h
  | 36, _, i, h => w0_36 h1 i h
  | 37, _, i, h => w0_37 h1 i h
  | 38, _, i, h => w0_38 h1 i h
  | 39, _, i, h => w0_39 h1 i h
  | 40, _, i, h => w0_40 h1 i h
  | 41, _, i, h => w0_41 h1 i h
  | 42, _, i, h => w0_42 h1 i h
  | 43, _, i, h => w0_43 h1 i h
  | 44, _, i, h => w0_44 h1 i h
  | 45, _, i, h => w0_45 h1 i h
  | 46, _, i, h => w0_46 h2 i h
  | 47, _, i, h => w0_47 h2 i h
  | 48, _, i, h => w0_48 h2 i h
  | 49, _, i, h => w0_49 h2 i h
  | 50, _, i, h => w0_50 h2 i h
  | 51, _, i, h => w0_51 h2 i h
  | 52, _, i, h => w0_52 h2 i h
  | 53, _, i, h => w0_53 h2 i h
  | 54, _, i, h => w0_54 h2 i h
  | 55, _, i, h => w0_55 h2 i h
  | 56, _, i, h => w0_56 h2 i h
  | 57, _, i, h => w0_57 h2 i h
  | 58, _, i, h => w0_58 h2 i h
  | 59, _, i, h => w0_59 h2 i h
  | 60, _, i, h => w0_60 h2 i h
  | 61, _, i, h => w0_61 h2 i h
  | 62, _, i, h => w0_62 h2 i h
  | 63, _, i, h => w0_63 h2 i h
  | 64, _, i, h => w0_64 h2 i h
  | 65, _, i, h => w0_65 h2 i h
  | 66, _, i, h => w0_66 h2 i h
  | t + 67, h, _, _ => absurd h (by omega)
theorem w0_P (h : va_P D clA (z_ST cA a ++ z_Model cA b) H) : va_P D clA (wsA (adW a b adK) cA sg0) H := by
  intro k q hk
  rw [wsA, List.getElem?_map] at hk
  cases hq : VL[k]? with
  | none => rw [hq] at hk; cases hk
  | some x =>
    rw [hq] at hk
    cases hk
    have hx := VL_of hq
    exact w0_all (va_P_l h) (va_P_r h) x.1 hx.1 x.2 hx.2.1
set_option maxRecDepth 100000 in
theorem z_ST_a : (z_ST cA a).map Prod.fst = (List.range 201).map a := rfl
set_option maxRecDepth 100000 in
theorem z_Model_a : (z_Model cA b).map Prod.fst = (List.range 21).map b := rfl
end W0

theorem nb67 {n : Nat} (h : n ≠ 67) : Nat.beq n 67 = false := by
  cases hb : Nat.beq n 67 with
  | false => rfl
  | true => exact absurd (Nat.eq_of_beq_eq_true hb) h
def TLW : List (Nat × Nat) := [(1, 0), (2, 0), (3, 0), (4, 0), (5, 0), (6, 0), (7, 0), (8, 0), (9, 0), (10, 0), (11, 0), (12, 0), (13, 0), (14, 0), (15, 0), (22, 0), (23, 0), (24, 0), (25, 0), (26, 0), (27, 0), (28, 0), (29, 0), (30, 0), (31, 0), (32, 0), (33, 0), (34, 0), (35, 0), (36, 0), (22, 1), (23, 1), (24, 1), (25, 1), (26, 1), (27, 1), (28, 1), (29, 1), (30, 1), (31, 1), (32, 1), (33, 1), (34, 1), (35, 1), (36, 1), (22, 2), (23, 2), (24, 2), (25, 2), (26, 2), (27, 2), (28, 2), (29, 2), (30, 2), (31, 2), (32, 2), (33, 2), (34, 2), (35, 2), (36, 2), (22, 3), (23, 3), (24, 3), (25, 3), (26, 3), (27, 3), (28, 3), (29, 3), (30, 3), (31, 3), (32, 3), (33, 3), (34, 3), (35, 3), (36, 3), (16, 0), (17, 0), (18, 0), (19, 0), (20, 0), (19, 1), (20, 1), (21, 0), (22, 4), (23, 4), (24, 4), (25, 4), (26, 4), (27, 4), (28, 4), (29, 4), (30, 4), (31, 4), (32, 4), (33, 4), (34, 4), (35, 4), (36, 4), (22, 5), (23, 5), (24, 5), (25, 5), (26, 5), (27, 5), (28, 5), (29, 5), (30, 5), (31, 5), (32, 5), (33, 5), (34, 5), (35, 5), (36, 5), (37, 0), (38, 0), (39, 0), (40, 0), (41, 0), (42, 0), (43, 0), (37, 1), (38, 1), (39, 1), (40, 1), (41, 1), (42, 1), (43, 1), (44, 0), (45, 0), (44, 1), (45, 1), (44, 2), (45, 2), (44, 3), (45, 3), (22, 6), (23, 6), (24, 6), (25, 6), (26, 6), (27, 6), (28, 6), (29, 6), (30, 6), (31, 6), (32, 6), (33, 6), (34, 6), (35, 6), (36, 6), (37, 2), (38, 2), (39, 2), (40, 2), (41, 2), (42, 2), (43, 2), (22, 7), (23, 7), (24, 7), (25, 7), (26, 7), (27, 7), (28, 7), (29, 7), (30, 7), (31, 7), (32, 7), (33, 7), (34, 7), (35, 7), (36, 7), (37, 3), (38, 3), (39, 3), (40, 3), (41, 3), (42, 3), (43, 3), (22, 8), (23, 8), (24, 8), (25, 8), (26, 8), (27, 8), (28, 8), (29, 8), (30, 8), (31, 8), (32, 8), (33, 8), (34, 8), (35, 8), (36, 8), (37, 4), (38, 4), (39, 4), (40, 4), (41, 4), (42, 4), (43, 4), (46, 0), (47, 0), (48, 0), (49, 0), (50, 0), (51, 0), (52, 0), (53, 0), (54, 0), (55, 0), (56, 0), (57, 0), (58, 0), (59, 0), (60, 0), (61, 0), (62, 0), (63, 0), (64, 0), (65, 0), (66, 0)]
theorem TLW_ok : ∀ q ∈ VL, TLW[pW q]? = some q ∧ pW q < 222 ∧ (q.1 < 46 → pW q < 201 ∧ pW q = ixS q.1 q.2) ∧ (46 ≤ q.1 → pW q = 201 + (q.1 - 46)) ∧ q.1 < 67 := by decide +kernel
theorem w0_at {cA : Nat → ClassId} {a b adK : Nat → Nat} {q : Nat × Nat} (hq : q ∈ VL) : ∃ e : va_E, (z_ST cA a ++ z_Model cA b)[pW q]? = some (adW a b adK q, e) := by
  obtain ⟨h1, h2, h3, h4, h5⟩ := TLW_ok q hq
  have hm : (z_ST cA a ++ z_Model cA b).map Prod.fst = (List.range 201).map a ++ (List.range 21).map b := by rw [List.map_append, z_ST_a, z_Model_a]
  have hl : ((z_ST cA a ++ z_Model cA b).map Prod.fst)[pW q]? = some (adW a b adK q) := by
    rw [hm]
    by_cases c : q.1 < 46
    · obtain ⟨h6, h7⟩ := h3 c
      have e : adW a b adK q = a (pW q) := by
        rw [h7]
        unfold adW
        rw [nb67 (by omega), show Nat.ble 46 q.1 = false from by
          cases hb : Nat.ble 46 q.1 with
          | false => rfl
          | true => exact absurd (Nat.le_of_ble_eq_true hb) (by omega)]
        rfl
      rw [List.getElem?_append_left (by rw [List.length_map, List.length_range]; exact h6), List.getElem?_map, List.getElem?_range h6, e]
      rfl
    · have h6 := h4 (by omega)
      have e : adW a b adK q = b (q.1 - 46) := by
        unfold adW
        rw [nb67 (by omega), show Nat.ble 46 q.1 = true from Nat.ble_eq_true_of_le (by omega)]
        rfl
      rw [List.getElem?_append_right (by rw [List.length_map, List.length_range]; omega), List.length_map, List.length_range, List.getElem?_map, List.getElem?_range (by omega), e, show pW q - 201 = q.1 - 46 by omega]
      rfl
  rw [List.getElem?_map] at hl
  cases hx : (z_ST cA a ++ z_Model cA b)[pW q]? with
  | none => rw [hx] at hl; cases hl
  | some x =>
    rw [hx] at hl
    have : x.1 = adW a b adK q := Option.some.inj hl
    exact ⟨x.2, by rw [← this]⟩
theorem w0_Ad {cA : Nat → ClassId} {a b adK : Nat → Nat} {A : Nat → Prop} (hD : va_D A (z_ST cA a ++ z_Model cA b)) : AdOk (adW a b adK) ∧ ∀ x, AA (adW a b adK) x → A x := by
  refine ⟨fun q hq q' hq' e => ?_, fun x hx => ?_⟩
  · obtain ⟨e1, h1⟩ := w0_at (cA := cA) (a := a) (b := b) (adK := adK) hq
    obtain ⟨e2, h2⟩ := w0_at (cA := cA) (a := a) (b := b) (adK := adK) hq'
    have hp := hD.1 _ _ _ _ h1 h2 e
    have k1 := (TLW_ok q hq).1
    rw [hp, (TLW_ok q' hq').1] at k1
    exact (Option.some.inj k1).symm
  · obtain ⟨q, hq, rfl⟩ := hx
    obtain ⟨e1, h1⟩ := w0_at (cA := cA) (a := a) (b := b) (adK := adK) hq
    exact hD.2 _ _ h1
