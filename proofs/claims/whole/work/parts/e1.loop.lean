def swO : Array Int := #[259, 272, 286, 300, 343, 416, 450, 513, 576, 599, 622, 645, 668, 701, 734, 767, 780, 793, 816, 839, 888, 947, 1006, 1039, 1062, 1095, 1128, 1161, 1194, 1217, 1240, 1253, 1266, 1289, 1322, 1335, 1358, 1381, 1394, 1427, 1450, 1473, 1496, 1539, 1562, 1595, 1608, 1631, 1654, 1677, 1700, 1733, 1776, 1799, 1822, 1845, 1868, 1891, 1914, 1947, 1960]
def lwtA : List (Nat × Instr × Nat) := [(0, .new 7, 3), (3, .dup, 1), (4, .invokespecial 9, 3), (7, .astore_n 1, 1), (8, .new 10, 3), (11, .dup, 1), (12, .invokespecial 12, 3), (15, .astore_n 2, 1), (16, .iconst 0, 1), (17, .istore_n 3, 1), (18, .iload_n 3, 1), (19, .aload_n 0, 1), (20, .arraylength, 1), (21, .bipush 6, 2), (23, .isub, 1), (24, .if_icmp .gt 1988, 3), (27, .aload_n 0, 1), (28, .iload_n 3, 1), (29, .iaload, 1), (30, .bipush 63, 2), (32, .iand, 1), (33, .tableswitch 1973 0 60 swO, 259), (2006, .iinc 3 6, 3), (2009, .goto (-1991), 3), (2012, .iconst 1, 1), (2013, .ireturn, 1)]
theorem lwtA_ok : ∀ q ∈ lwtA, decode code q.1 = .ok (q.2.1, q.2.2) := by decide +kernel
theorem oi_exN (x : Int32) : ∃ a : Nat, x = Int32.ofInt (a : Int) := by
  obtain ⟨z, h, h1, h2⟩ := oi_ex x
  by_cases hz : 0 ≤ z
  · exact ⟨z.toNat, by rw [h, Int.toNat_of_nonneg hz]⟩
  · refine ⟨(z + 4294967296).toNat, ?_⟩
    rw [Int.toNat_of_nonneg (by omega), ← oi_add, show Int32.ofInt 4294967296 = 0 from by decide, Int32.add_zero, h]
theorem and63 (x : Int32) : ∃ n : Nat, n ≤ 63 ∧ x &&& Int32.ofInt 63 = Int32.ofInt (n : Int) := by
  obtain ⟨a, rfl⟩ := oi_exN x
  exact ⟨a &&& 63, Nat.and_le_right, oi_and a 63⟩
section LAWE
variable {p : Program} {l : Launch} {e : Env} {R : Room} {s : State} {m : MethodId} {args : Array Value} {below : List Frame} {meth : Method} {c : Code} {Q : State → Prop} {cc : ByteArray} {D : va_G} {cA : Nat → ClassId} {N0 nL pc cells slots : Nat} {adK : Nat → Nat} {own : String} {ws : va_W} {lv : List (Nat × Value)} {st : List Value}
theorem n_icmpgt {x y : Int32} {off : Int} {tgt : Nat} (C : Cc p s m args c cc D cA N0 adK nL own) (hd : decode cc pc = .ok (.if_icmp .gt off, 3)) (ht : (pc : Int) + off = (tgt : Int)) (kt : y < x → Cn p l e R s m args below meth c Q D N0 nL ws tgt lv st cells slots) (kf : ¬ y < x → Cn p l e R s m args below meth c Q D N0 nL ws (pc + 3) lv st cells slots) : Cn p l e R s m args below meth c Q D N0 nL ws pc lv (.int y :: .int x :: st) cells slots := fun H locs ls hl hP hD hS => lv_icmp_gt C.1 C.2.1 hd ht (fun h => kt h H locs ls hl hP hD hS) (fun h => kf h H locs ls hl hP hD hS)
theorem n_tin {dflt lo hi off : Int} {offs : Array Int} {len tgt : Nat} {x : Int32} (C : Cc p s m args c cc D cA N0 adK nL own) (hd : decode cc pc = .ok (.tableswitch dflt lo hi offs, len)) (h1 : ¬ x.toInt < lo) (h2 : ¬ hi < x.toInt) (ho : offs[(x.toInt - lo).toNat]? = some off) (ht : (pc : Int) + off = (tgt : Int)) (kk : Cn p l e R s m args below meth c Q D N0 nL ws tgt lv st cells slots) : Cn p l e R s m args below meth c Q D N0 nL ws pc lv (.int x :: st) cells slots := fun H locs ls hl hP hD hS => lv_tableIn C.1 C.2.1 hd h1 h2 ho ht (kk H locs ls hl hP hD hS)
theorem n_tout {dflt lo hi : Int} {offs : Array Int} {len tgt : Nat} {x : Int32} (C : Cc p s m args c cc D cA N0 adK nL own) (hd : decode cc pc = .ok (.tableswitch dflt lo hi offs, len)) (h : x.toInt < lo ∨ hi < x.toInt) (ht : (pc : Int) + dflt = (tgt : Int)) (kk : Cn p l e R s m args below meth c Q D N0 nL ws tgt lv st cells slots) : Cn p l e R s m args below meth c Q D N0 nL ws pc lv (.int x :: st) cells slots := fun H locs ls hl hP hD hS => lv_tableOut C.1 C.2.1 hd h ht (kk H locs ls hl hP hD hS)
theorem cn_nil (h : Cn p l e R s m args below meth c Q D N0 nL ws pc lv st cells slots) : Cn p l e R s m args below meth c Q D N0 nL ([] ++ ws) pc lv st cells slots := h
/-- the reference's constructor is called -/
theorem n_initM {b idx : Nat} {a : Nat → Nat} (C : Cc p s m args c cc D cA N0 adK nL own) (h1 : Cond.code (⟨"SilentTurnModel", "<init>", "()V"⟩ : MethodName) prog_14_method_1_code 1 none ∈ Tg) (h2 : Cond.initialized "SilentTurnModel" ∈ Tg) (h3 : Cond.methodLink own idx (⟨"SilentTurnModel", "<init>", "()V"⟩ : MethodName) ∈ Tg) (h4 : Cond.instanceMethod (⟨"SilentTurnModel", "<init>", "()V"⟩ : MethodName) ∈ Tg) (hR : 12 + 1 ≤ R.frames ∧ 8 + (1 + 11) + 720 ≤ R.locals) (hst : (st.map fun v => v.category).sum ≤ 8) (hd : decode cc pc = .ok (.invokespecial idx, 3)) (hcs : cells + 20 ≤ R.cells ∧ slots + 6519 ≤ R.slots)
    (kk : ∀ (u : Nat → Nat) (σ : AM), u 0 = b → Rel σ → AdOk (adW a u adK) → (∀ x, AA (adW a u adK) x → AN N0 x) → Cn p l e R s m args below meth c Q D N0 nL (wsA (adW a u adK) cA σ) (pc + 3) lv st (cells + 20) (slots + 6519)) : Cn p l e R s m args below meth c Q D N0 nL (z_ST cA a ++ [(b, .inr (12, df12))]) pc lv (.ref b :: st) cells slots := by
  intro H locs ls hl hP hD hS
  obtain ⟨hx, hb, hown, hml, hts, hK, hN0, hW⟩ := C
  have hpre : ∀ U : State, U.heap = H → s.WarmedH U.vm → va_Pc (.ref b :: []) (PreC D cA N0 adK (z_ST cA a ++ [(b, .inr (12, df12))])) (Value.ref b :: []).toArray U := fun U hU hw => ⟨rfl, by rw [hU]; exact Nat.le_trans hN0 hS.1, by rw [hU]; exact hP, va_K.moved hw.alike hK, hD, by rw [hU]; exact SWc.warm hw (hW.kept hS.2.1)⟩
  have hrun : va_Run p l e R s m args below meth c H locs cells slots 20 6519 (F0 m pc ls (.ref b :: st)) st (PostM D cA N0 adK a b (Value.ref b :: []).toArray) (AN N0) :=
    va_runI (As := []) (Ts := Tg) (nL := nL) ⟨hx, hb, hml, hown, hts⟩ (c_Model l D cA N0 adK a b) ⟨callB_of 0 hts (goodT (wS_in h1)) rfl rfl rfl (hts _ h2) (hts _ h3) (by decide +kernel) hR, rfl, hts _ h4⟩ ⟨PreC_blind, hpre⟩ rfl rfl hl.1 rfl (lv_room hst) hd hcs
  refine va_callv hrun hS (fun q _ h => h) (fun q h => h) (fun u t H1 locs1 ht hvm hp hB hz hk hS1 => ?_)
  obtain ⟨p1, p2, p3, p4⟩ := hp
  have hD1 : va_D (AN N0) (wsA (adW a u.1 adK) cA u.2) := (wsA_D p3).weaken (fun k q hq _ => p4 _ ((wsA_D p3 (cA := cA) (σ := u.2)).2 k q hq))
  rw [ht] at hB
  exact kk u.1 u.2 p1 p2 p3 p4 H1 locs1 ls hl hB hD1 hS1
end LAWE
section LAWF
variable {p : Program} {l : Launch} {e : Env} {s : State} {m : MethodId} {args : Array Value} {below : List Frame} {meth : Method} {c : Code} {Q : State → Prop} {D : va_G} {cA : Nat → ClassId} {N0 cells slots b L i : Nat} {adK : Nat → Nat} {ad : Nat × Nat → Nat} {σ : AM} {xs : Nat → Int32}
theorem law_sw (C : Cc p s m args c code D cA N0 adK 4 "SilentTurnLaw") (hX : Scr s N0 b L xs) (hi : i + 6 ≤ L) (hAd : AdOk ad) (hk : ∀ i, ad (67, i) = adK i) (hAN : ∀ x, AA ad x → AN N0 x) (hcs : cells ≤ room_1.cells ∧ slots ≤ room_1.slots) (hR : Rel σ) (kk : ∀ σ' : AM, Rel σ' → Cn p l e room_1 s m args below meth c Q D N0 4 (wsA ad cA σ') 2006 (lvL b (ad (1, 0)) (ad (46, 0)) i) [] cells slots) : ∀ n : Nat, n ≤ 63 → Cn p l e room_1 s m args below meth c Q D N0 4 (wsA ad cA σ) 33 (lvL b (ad (1, 0)) (ad (46, 0)) i) [.int (Int32.ofInt (n : Int))] cells slots
  | 0, _ => n_tin (off := 259) (tgt := 292) C (lwtA_ok (33, .tableswitch 1973 0 60 swO, 259) (List.mem_of_getElem? (i := 21) rfl)) (by decide) (by decide) (by decide +kernel) rfl (la0 C hX hi hAd hk hAN hcs hR kk)
  | 1, _ => n_tin (off := 272) (tgt := 305) C (lwtA_ok (33, .tableswitch 1973 0 60 swO, 259) (List.mem_of_getElem? (i := 21) rfl)) (by decide) (by decide) (by decide +kernel) rfl (la1 C hX hi hAd hk hAN hcs hR kk)
  | 2, _ => n_tin (off := 286) (tgt := 319) C (lwtA_ok (33, .tableswitch 1973 0 60 swO, 259) (List.mem_of_getElem? (i := 21) rfl)) (by decide) (by decide) (by decide +kernel) rfl (la2 C hX hi hAd hk hAN hcs hR kk)
  | 3, _ => n_tin (off := 300) (tgt := 333) C (lwtA_ok (33, .tableswitch 1973 0 60 swO, 259) (List.mem_of_getElem? (i := 21) rfl)) (by decide) (by decide) (by decide +kernel) rfl (la3 C hX hi hAd hk hAN hcs hR kk)
  | 4, _ => n_tin (off := 343) (tgt := 376) C (lwtA_ok (33, .tableswitch 1973 0 60 swO, 259) (List.mem_of_getElem? (i := 21) rfl)) (by decide) (by decide) (by decide +kernel) rfl (la4 C hX hi hAd hk hAN hcs hR kk)
  | 5, _ => n_tin (off := 416) (tgt := 449) C (lwtA_ok (33, .tableswitch 1973 0 60 swO, 259) (List.mem_of_getElem? (i := 21) rfl)) (by decide) (by decide) (by decide +kernel) rfl (la5 C hX hi hAd hk hAN hcs hR kk)
  | 6, _ => n_tin (off := 450) (tgt := 483) C (lwtA_ok (33, .tableswitch 1973 0 60 swO, 259) (List.mem_of_getElem? (i := 21) rfl)) (by decide) (by decide) (by decide +kernel) rfl (la6 C hX hi hAd hk hAN hcs hR kk)
  | 7, _ => n_tin (off := 513) (tgt := 546) C (lwtA_ok (33, .tableswitch 1973 0 60 swO, 259) (List.mem_of_getElem? (i := 21) rfl)) (by decide) (by decide) (by decide +kernel) rfl (la7 C hX hi hAd hk hAN hcs hR kk)
  | 8, _ => n_tin (off := 576) (tgt := 609) C (lwtA_ok (33, .tableswitch 1973 0 60 swO, 259) (List.mem_of_getElem? (i := 21) rfl)) (by decide) (by decide) (by decide +kernel) rfl (la8 C hX hi hAd hk hAN hcs hR kk)
  | 9, _ => n_tin (off := 599) (tgt := 632) C (lwtA_ok (33, .tableswitch 1973 0 60 swO, 259) (List.mem_of_getElem? (i := 21) rfl)) (by decide) (by decide) (by decide +kernel) rfl (la9 C hX hi hAd hk hAN hcs hR kk)
  | 10, _ => n_tin (off := 622) (tgt := 655) C (lwtA_ok (33, .tableswitch 1973 0 60 swO, 259) (List.mem_of_getElem? (i := 21) rfl)) (by decide) (by decide) (by decide +kernel) rfl (la10 C hX hi hAd hk hAN hcs hR kk)
  | 11, _ => n_tin (off := 645) (tgt := 678) C (lwtA_ok (33, .tableswitch 1973 0 60 swO, 259) (List.mem_of_getElem? (i := 21) rfl)) (by decide) (by decide) (by decide +kernel) rfl (la11 C hX hi hAd hk hAN hcs hR kk)
  | 12, _ => n_tin (off := 668) (tgt := 701) C (lwtA_ok (33, .tableswitch 1973 0 60 swO, 259) (List.mem_of_getElem? (i := 21) rfl)) (by decide) (by decide) (by decide +kernel) rfl (la12 C hX hi hAd hk hAN hcs hR kk)
  | 13, _ => n_tin (off := 701) (tgt := 734) C (lwtA_ok (33, .tableswitch 1973 0 60 swO, 259) (List.mem_of_getElem? (i := 21) rfl)) (by decide) (by decide) (by decide +kernel) rfl (la13 C hX hi hAd hk hAN hcs hR kk)
  | 14, _ => n_tin (off := 734) (tgt := 767) C (lwtA_ok (33, .tableswitch 1973 0 60 swO, 259) (List.mem_of_getElem? (i := 21) rfl)) (by decide) (by decide) (by decide +kernel) rfl (la14 C hX hi hAd hk hAN hcs hR kk)
  | 15, _ => n_tin (off := 767) (tgt := 800) C (lwtA_ok (33, .tableswitch 1973 0 60 swO, 259) (List.mem_of_getElem? (i := 21) rfl)) (by decide) (by decide) (by decide +kernel) rfl (la15 C hX hi hAd hk hAN hcs hR kk)
  | 16, _ => n_tin (off := 780) (tgt := 813) C (lwtA_ok (33, .tableswitch 1973 0 60 swO, 259) (List.mem_of_getElem? (i := 21) rfl)) (by decide) (by decide) (by decide +kernel) rfl (la16 C hX hi hAd hk hAN hcs hR kk)
  | 17, _ => n_tin (off := 793) (tgt := 826) C (lwtA_ok (33, .tableswitch 1973 0 60 swO, 259) (List.mem_of_getElem? (i := 21) rfl)) (by decide) (by decide) (by decide +kernel) rfl (la17 C hX hi hAd hk hAN hcs hR kk)
  | 18, _ => n_tin (off := 816) (tgt := 849) C (lwtA_ok (33, .tableswitch 1973 0 60 swO, 259) (List.mem_of_getElem? (i := 21) rfl)) (by decide) (by decide) (by decide +kernel) rfl (la18 C hX hi hAd hk hAN hcs hR kk)
  | 19, _ => n_tin (off := 839) (tgt := 872) C (lwtA_ok (33, .tableswitch 1973 0 60 swO, 259) (List.mem_of_getElem? (i := 21) rfl)) (by decide) (by decide) (by decide +kernel) rfl (la19 C hX hi hAd hk hAN hcs hR kk)
  | 20, _ => n_tin (off := 888) (tgt := 921) C (lwtA_ok (33, .tableswitch 1973 0 60 swO, 259) (List.mem_of_getElem? (i := 21) rfl)) (by decide) (by decide) (by decide +kernel) rfl (la20 C hX hi hAd hk hAN hcs hR kk)
  | 21, _ => n_tin (off := 947) (tgt := 980) C (lwtA_ok (33, .tableswitch 1973 0 60 swO, 259) (List.mem_of_getElem? (i := 21) rfl)) (by decide) (by decide) (by decide +kernel) rfl (la21 C hX hi hAd hk hAN hcs hR kk)
  | 22, _ => n_tin (off := 1006) (tgt := 1039) C (lwtA_ok (33, .tableswitch 1973 0 60 swO, 259) (List.mem_of_getElem? (i := 21) rfl)) (by decide) (by decide) (by decide +kernel) rfl (la22 C hX hi hAd hk hAN hcs hR kk)
  | 23, _ => n_tin (off := 1039) (tgt := 1072) C (lwtA_ok (33, .tableswitch 1973 0 60 swO, 259) (List.mem_of_getElem? (i := 21) rfl)) (by decide) (by decide) (by decide +kernel) rfl (la23 C hX hi hAd hk hAN hcs hR kk)
  | 24, _ => n_tin (off := 1062) (tgt := 1095) C (lwtA_ok (33, .tableswitch 1973 0 60 swO, 259) (List.mem_of_getElem? (i := 21) rfl)) (by decide) (by decide) (by decide +kernel) rfl (la24 C hX hi hAd hk hAN hcs hR kk)
  | 25, _ => n_tin (off := 1095) (tgt := 1128) C (lwtA_ok (33, .tableswitch 1973 0 60 swO, 259) (List.mem_of_getElem? (i := 21) rfl)) (by decide) (by decide) (by decide +kernel) rfl (la25 C hX hi hAd hk hAN hcs hR kk)
  | 26, _ => n_tin (off := 1128) (tgt := 1161) C (lwtA_ok (33, .tableswitch 1973 0 60 swO, 259) (List.mem_of_getElem? (i := 21) rfl)) (by decide) (by decide) (by decide +kernel) rfl (la26 C hX hi hAd hk hAN hcs hR kk)
  | 27, _ => n_tin (off := 1161) (tgt := 1194) C (lwtA_ok (33, .tableswitch 1973 0 60 swO, 259) (List.mem_of_getElem? (i := 21) rfl)) (by decide) (by decide) (by decide +kernel) rfl (la27 C hX hi hAd hk hAN hcs hR kk)
  | 28, _ => n_tin (off := 1194) (tgt := 1227) C (lwtA_ok (33, .tableswitch 1973 0 60 swO, 259) (List.mem_of_getElem? (i := 21) rfl)) (by decide) (by decide) (by decide +kernel) rfl (la28 C hX hi hAd hk hAN hcs hR kk)
  | 29, _ => n_tin (off := 1217) (tgt := 1250) C (lwtA_ok (33, .tableswitch 1973 0 60 swO, 259) (List.mem_of_getElem? (i := 21) rfl)) (by decide) (by decide) (by decide +kernel) rfl (la29 C hX hi hAd hk hAN hcs hR kk)
  | 30, _ => n_tin (off := 1240) (tgt := 1273) C (lwtA_ok (33, .tableswitch 1973 0 60 swO, 259) (List.mem_of_getElem? (i := 21) rfl)) (by decide) (by decide) (by decide +kernel) rfl (la30 C hX hi hAd hk hAN hcs hR kk)
  | 31, _ => n_tin (off := 1253) (tgt := 1286) C (lwtA_ok (33, .tableswitch 1973 0 60 swO, 259) (List.mem_of_getElem? (i := 21) rfl)) (by decide) (by decide) (by decide +kernel) rfl (la31 C hX hi hAd hk hAN hcs hR kk)
  | 32, _ => n_tin (off := 1266) (tgt := 1299) C (lwtA_ok (33, .tableswitch 1973 0 60 swO, 259) (List.mem_of_getElem? (i := 21) rfl)) (by decide) (by decide) (by decide +kernel) rfl (la32 C hX hi hAd hk hAN hcs hR kk)
  | 33, _ => n_tin (off := 1289) (tgt := 1322) C (lwtA_ok (33, .tableswitch 1973 0 60 swO, 259) (List.mem_of_getElem? (i := 21) rfl)) (by decide) (by decide) (by decide +kernel) rfl (la33 C hX hi hAd hk hAN hcs hR kk)
  | 34, _ => n_tin (off := 1322) (tgt := 1355) C (lwtA_ok (33, .tableswitch 1973 0 60 swO, 259) (List.mem_of_getElem? (i := 21) rfl)) (by decide) (by decide) (by decide +kernel) rfl (la34 C hX hi hAd hk hAN hcs hR kk)
  | 35, _ => n_tin (off := 1335) (tgt := 1368) C (lwtA_ok (33, .tableswitch 1973 0 60 swO, 259) (List.mem_of_getElem? (i := 21) rfl)) (by decide) (by decide) (by decide +kernel) rfl (la35 C hX hi hAd hk hAN hcs hR kk)
  | 36, _ => n_tin (off := 1358) (tgt := 1391) C (lwtA_ok (33, .tableswitch 1973 0 60 swO, 259) (List.mem_of_getElem? (i := 21) rfl)) (by decide) (by decide) (by decide +kernel) rfl (la36 C hX hi hAd hk hAN hcs hR kk)
  | 37, _ => n_tin (off := 1381) (tgt := 1414) C (lwtA_ok (33, .tableswitch 1973 0 60 swO, 259) (List.mem_of_getElem? (i := 21) rfl)) (by decide) (by decide) (by decide +kernel) rfl (la37 C hX hi hAd hk hAN hcs hR kk)
  | 38, _ => n_tin (off := 1394) (tgt := 1427) C (lwtA_ok (33, .tableswitch 1973 0 60 swO, 259) (List.mem_of_getElem? (i := 21) rfl)) (by decide) (by decide) (by decide +kernel) rfl (la38 C hX hi hAd hk hAN hcs hR kk)
  | 39, _ => n_tin (off := 1427) (tgt := 1460) C (lwtA_ok (33, .tableswitch 1973 0 60 swO, 259) (List.mem_of_getElem? (i := 21) rfl)) (by decide) (by decide) (by decide +kernel) rfl (la39 C hX hi hAd hk hAN hcs hR kk)
  | 40, _ => n_tin (off := 1450) (tgt := 1483) C (lwtA_ok (33, .tableswitch 1973 0 60 swO, 259) (List.mem_of_getElem? (i := 21) rfl)) (by decide) (by decide) (by decide +kernel) rfl (la40 C hX hi hAd hk hAN hcs hR kk)
  | 41, _ => n_tin (off := 1473) (tgt := 1506) C (lwtA_ok (33, .tableswitch 1973 0 60 swO, 259) (List.mem_of_getElem? (i := 21) rfl)) (by decide) (by decide) (by decide +kernel) rfl (la41 C hX hi hAd hk hAN hcs hR kk)
  | 42, _ => n_tin (off := 1496) (tgt := 1529) C (lwtA_ok (33, .tableswitch 1973 0 60 swO, 259) (List.mem_of_getElem? (i := 21) rfl)) (by decide) (by decide) (by decide +kernel) rfl (la42 C hX hi hAd hk hAN hcs hR kk)
  | 43, _ => n_tin (off := 1539) (tgt := 1572) C (lwtA_ok (33, .tableswitch 1973 0 60 swO, 259) (List.mem_of_getElem? (i := 21) rfl)) (by decide) (by decide) (by decide +kernel) rfl (la43 C hX hi hAd hk hAN hcs hR kk)
  | 44, _ => n_tin (off := 1562) (tgt := 1595) C (lwtA_ok (33, .tableswitch 1973 0 60 swO, 259) (List.mem_of_getElem? (i := 21) rfl)) (by decide) (by decide) (by decide +kernel) rfl (la44 C hX hi hAd hk hAN hcs hR kk)
  | 45, _ => n_tin (off := 1595) (tgt := 1628) C (lwtA_ok (33, .tableswitch 1973 0 60 swO, 259) (List.mem_of_getElem? (i := 21) rfl)) (by decide) (by decide) (by decide +kernel) rfl (la45 C hX hi hAd hk hAN hcs hR kk)
  | 46, _ => n_tin (off := 1608) (tgt := 1641) C (lwtA_ok (33, .tableswitch 1973 0 60 swO, 259) (List.mem_of_getElem? (i := 21) rfl)) (by decide) (by decide) (by decide +kernel) rfl (la46 C hX hi hAd hk hAN hcs hR kk)
  | 47, _ => n_tin (off := 1631) (tgt := 1664) C (lwtA_ok (33, .tableswitch 1973 0 60 swO, 259) (List.mem_of_getElem? (i := 21) rfl)) (by decide) (by decide) (by decide +kernel) rfl (la47 C hX hi hAd hk hAN hcs hR kk)
  | 48, _ => n_tin (off := 1654) (tgt := 1687) C (lwtA_ok (33, .tableswitch 1973 0 60 swO, 259) (List.mem_of_getElem? (i := 21) rfl)) (by decide) (by decide) (by decide +kernel) rfl (la48 C hX hi hAd hk hAN hcs hR kk)
  | 49, _ => n_tin (off := 1677) (tgt := 1710) C (lwtA_ok (33, .tableswitch 1973 0 60 swO, 259) (List.mem_of_getElem? (i := 21) rfl)) (by decide) (by decide) (by decide +kernel) rfl (la49 C hX hi hAd hk hAN hcs hR kk)
  | 50, _ => n_tin (off := 1700) (tgt := 1733) C (lwtA_ok (33, .tableswitch 1973 0 60 swO, 259) (List.mem_of_getElem? (i := 21) rfl)) (by decide) (by decide) (by decide +kernel) rfl (la50 C hX hi hAd hk hAN hcs hR kk)
  | 51, _ => n_tin (off := 1733) (tgt := 1766) C (lwtA_ok (33, .tableswitch 1973 0 60 swO, 259) (List.mem_of_getElem? (i := 21) rfl)) (by decide) (by decide) (by decide +kernel) rfl (la51 C hX hi hAd hk hAN hcs hR kk)
  | 52, _ => n_tin (off := 1776) (tgt := 1809) C (lwtA_ok (33, .tableswitch 1973 0 60 swO, 259) (List.mem_of_getElem? (i := 21) rfl)) (by decide) (by decide) (by decide +kernel) rfl (la52 C hX hi hAd hk hAN hcs hR kk)
  | 53, _ => n_tin (off := 1799) (tgt := 1832) C (lwtA_ok (33, .tableswitch 1973 0 60 swO, 259) (List.mem_of_getElem? (i := 21) rfl)) (by decide) (by decide) (by decide +kernel) rfl (la53 C hX hi hAd hk hAN hcs hR kk)
  | 54, _ => n_tin (off := 1822) (tgt := 1855) C (lwtA_ok (33, .tableswitch 1973 0 60 swO, 259) (List.mem_of_getElem? (i := 21) rfl)) (by decide) (by decide) (by decide +kernel) rfl (la54 C hX hi hAd hk hAN hcs hR kk)
  | 55, _ => n_tin (off := 1845) (tgt := 1878) C (lwtA_ok (33, .tableswitch 1973 0 60 swO, 259) (List.mem_of_getElem? (i := 21) rfl)) (by decide) (by decide) (by decide +kernel) rfl (la55 C hX hi hAd hk hAN hcs hR kk)
  | 56, _ => n_tin (off := 1868) (tgt := 1901) C (lwtA_ok (33, .tableswitch 1973 0 60 swO, 259) (List.mem_of_getElem? (i := 21) rfl)) (by decide) (by decide) (by decide +kernel) rfl (la56 C hX hi hAd hk hAN hcs hR kk)
  | 57, _ => n_tin (off := 1891) (tgt := 1924) C (lwtA_ok (33, .tableswitch 1973 0 60 swO, 259) (List.mem_of_getElem? (i := 21) rfl)) (by decide) (by decide) (by decide +kernel) rfl (la57 C hX hi hAd hk hAN hcs hR kk)
  | 58, _ => n_tin (off := 1914) (tgt := 1947) C (lwtA_ok (33, .tableswitch 1973 0 60 swO, 259) (List.mem_of_getElem? (i := 21) rfl)) (by decide) (by decide) (by decide +kernel) rfl (la58 C hX hi hAd hk hAN hcs hR kk)
  | 59, _ => n_tin (off := 1947) (tgt := 1980) C (lwtA_ok (33, .tableswitch 1973 0 60 swO, 259) (List.mem_of_getElem? (i := 21) rfl)) (by decide) (by decide) (by decide +kernel) rfl (la59 C hX hi hAd hk hAN hcs hR kk)
  | 60, _ => n_tin (off := 1960) (tgt := 1993) C (lwtA_ok (33, .tableswitch 1973 0 60 swO, 259) (List.mem_of_getElem? (i := 21) rfl)) (by decide) (by decide) (by decide +kernel) rfl (la60 C hX hi hAd hk hAN hcs hR kk)
  | 61, _ => n_tout (tgt := 2006) C (lwtA_ok (33, .tableswitch 1973 0 60 swO, 259) (List.mem_of_getElem? (i := 21) rfl)) (Or.inr (by decide)) rfl (kk _ hR)
  | 62, _ => n_tout (tgt := 2006) C (lwtA_ok (33, .tableswitch 1973 0 60 swO, 259) (List.mem_of_getElem? (i := 21) rfl)) (Or.inr (by decide)) rfl (kk _ hR)
  | 63, _ => n_tout (tgt := 2006) C (lwtA_ok (33, .tableswitch 1973 0 60 swO, 259) (List.mem_of_getElem? (i := 21) rfl)) (Or.inr (by decide)) rfl (kk _ hR)
  | n + 64, h => absurd h (by omega)
end LAWF
theorem law_end {p : Program} {l : Launch} {e : Env} {s : State} {m : MethodId} {below : List Frame} {meth : Method} {c : Code} {D : va_G} {cA : Nat → ClassId} {N0 b : Nat} {adK : Nat → Nat} {ws : va_W} {lv : List (Nat × Value)} (C : Cc p s m #[Value.ref b] c code D cA N0 adK 4 "SilentTurnLaw") (hr : meth.sig.returnType = ret) (hlk : meth.locks = false) (hN : N0 = s.heap.size) : Cn p l e room_1 s m #[Value.ref b] below meth c (lw_Z below #[Value.ref b] s) D N0 4 ws 2012 lv [] 222 10874 := by
  refine n_iconst (v := 1) C (lwtA_ok (2012, .iconst 1, 1) (List.mem_of_getElem? (i := 24) rfl)) rfl ?_
  intro H locs ls hl hP hD hS
  refine va_forget (fun q hq => by rw [← hN]; exact hS.2.2 q hq) ?_
  refine W.widen (k := 600000) (n := 7302249) (by omega) (by omega) ?_
  exact lw_ret C.1 C.2.1 hr hlk (lwtA_ok (2013, .ireturn, 1) (List.mem_of_getElem? (i := 25) rfl))
theorem law_step {p : Program} {l : Launch} {e : Env} {s : State} {m : MethodId} {below : List Frame} {meth : Method} {c : Code} {D : va_G} {cA : Nat → ClassId} {N0 b L i : Nat} {adK : Nat → Nat} {ad : Nat × Nat → Nat} {xs : Nat → Int32} {σ : AM} (C : Cc p s m #[Value.ref b] c code D cA N0 adK 4 "SilentTurnLaw") (hr : meth.sig.returnType = ret) (hlk : meth.locks = false) (hN : N0 = s.heap.size) (hX : Scr s N0 b L xs) (hAd : AdOk ad) (hk : ∀ i, ad (67, i) = adK i) (hAN : ∀ x, AA ad x → AN N0 x) (hi : i ≤ 4000) (hR : Rel σ) (kk : i + 6 ≤ L → ∀ σ' : AM, Rel σ' → Cn p l e room_1 s m #[Value.ref b] below meth c (lw_Z below #[Value.ref b] s) D N0 4 (wsA ad cA σ') 18 (lvL b (ad (1, 0)) (ad (46, 0)) (i + 6)) [] 222 10874) : Cn p l e room_1 s m #[Value.ref b] below meth c (lw_Z below #[Value.ref b] s) D N0 4 (wsA ad cA σ) 18 (lvL b (ad (1, 0)) (ad (46, 0)) i) [] 222 10874 := by
  have hL : L ≤ 3072 := hX.2.2.2
  refine n_iload C (lwtA_ok (18, .iload_n 3, 1) (List.mem_of_getElem? (i := 10) rfl)) 3 rfl ?_
  refine n_aload C (lwtA_ok (19, .aload_n 0, 1) (List.mem_of_getElem? (i := 11) rfl)) 0 rfl ?_
  refine n_slen2 C hX (lwtA_ok (20, .arraylength, 1) (List.mem_of_getElem? (i := 12) rfl)) ?_
  refine n_bipush (v := Int32.ofInt 6) C (lwtA_ok (21, .bipush 6, 2) (List.mem_of_getElem? (i := 13) rfl)) rfl ?_
  refine n_isub C (lwtA_ok (23, .isub, 1) (List.mem_of_getElem? (i := 14) rfl)) ?_
  rw [show Int32.ofNat L - Int32.ofInt 6 = Int32.ofInt ((L : Int) - 6) from oi_sub (L : Int) 6]
  refine n_icmpgt (tgt := 2012) C (lwtA_ok (24, .if_icmp .gt 1988, 3) (List.mem_of_getElem? (i := 15) rfl)) rfl (fun _ => law_end C hr hlk hN) (fun hlt => ?_)
  have h6 : i + 6 ≤ L := by
    have h : ¬ ((L : Int) - 6 < (i : Int)) := fun z => hlt ((oi_lt (by omega) (by omega) (by omega) (by omega)).mpr z)
    omega
  refine n_aload C (lwtA_ok (27, .aload_n 0, 1) (List.mem_of_getElem? (i := 16) rfl)) 0 rfl ?_
  refine n_iload C (lwtA_ok (28, .iload_n 3, 1) (List.mem_of_getElem? (i := 17) rfl)) 3 rfl ?_
  refine n_sld (j := i) C hX ((oi_in (by omega) (by omega)).mpr ⟨by omega, by omega⟩) (by rw [oi_nat (by omega) (by omega)]; omega) (lwtA_ok (29, .iaload, 1) (List.mem_of_getElem? (i := 18) rfl)) ?_
  refine n_bipush (v := Int32.ofInt 63) C (lwtA_ok (30, .bipush 63, 2) (List.mem_of_getElem? (i := 19) rfl)) rfl ?_
  refine n_iand C (lwtA_ok (32, .iand, 1) (List.mem_of_getElem? (i := 20) rfl)) ?_
  obtain ⟨n, hn, en⟩ := and63 (xs i)
  rw [en]
  refine law_sw C hX h6 hAd hk hAN ⟨Nat.le_of_ble_eq_true rfl, Nat.le_of_ble_eq_true rfl⟩ hR (fun σ' hR' => ?_) n hn
  refine n_iinc (i := 3) (k := 3) (v := Int32.ofInt ((i + 6 : Nat) : Int)) C (lwtA_ok (2006, .iinc 3 6, 3) (List.mem_of_getElem? (i := 22) rfl)) rfl (oi_add (i : Int) 6) (by decide) rfl ?_
  refine n_goto (tgt := 18) C (lwtA_ok (2009, .goto (-1991), 3) (List.mem_of_getElem? (i := 23) rfl)) rfl ?_
  exact n_lvs [1, 2, 3, 0] rfl (kk h6 σ' hR')
theorem law_loop {p : Program} {l : Launch} {e : Env} {s : State} {m : MethodId} {below : List Frame} {meth : Method} {c : Code} {D : va_G} {cA : Nat → ClassId} {N0 b L : Nat} {adK : Nat → Nat} {ad : Nat × Nat → Nat} {xs : Nat → Int32} (C : Cc p s m #[Value.ref b] c code D cA N0 adK 4 "SilentTurnLaw") (hr : meth.sig.returnType = ret) (hlk : meth.locks = false) (hN : N0 = s.heap.size) (hX : Scr s N0 b L xs) (hAd : AdOk ad) (hk : ∀ i, ad (67, i) = adK i) (hAN : ∀ x, AA ad x → AN N0 x) : ∀ (n i : Nat) (σ : AM), L + 6 ≤ i + 6 * n → i ≤ 4000 → Rel σ → Cn p l e room_1 s m #[Value.ref b] below meth c (lw_Z below #[Value.ref b] s) D N0 4 (wsA ad cA σ) 18 (lvL b (ad (1, 0)) (ad (46, 0)) i) [] 222 10874 := by
  have hL : L ≤ 3072 := hX.2.2.2
  intro n
  induction n with
  | zero => exact fun i σ hb hi hR => law_step C hr hlk hN hX hAd hk hAN hi hR (fun h => absurd h (by omega))
  | succ n ih => exact fun i σ hb hi hR => law_step C hr hlk hN hX hAd hk hAN hi hR (fun h σ' hR' => ih (i + 6) σ' (by omega) (by omega) hR')
/-- the second half of the start: the reference is made -/
theorem law_s2 {p : Program} {l : Launch} {e : Env} {s : State} {m : MethodId} {below : List Frame} {meth : Method} {c : Code} {D : va_G} {cA : Nat → ClassId} {N0 b L : Nat} {adK : Nat → Nat} {xs : Nat → Int32} {a : Nat → Nat} (C : Cc p s m #[Value.ref b] c code D cA N0 adK 4 "SilentTurnLaw") (hr : meth.sig.returnType = ret) (hlk : meth.locks = false) (hN : N0 = s.heap.size) (hX : Scr s N0 b L xs) : Cn p l e room_1 s m #[Value.ref b] below meth c (lw_Z below #[Value.ref b] s) D N0 4 (z_ST cA a) 8 [(1, .ref (a 0)), (0, .ref b)] [] 201 4308 := by
  have hL : L ≤ 3072 := hX.2.2.2
  refine n_new (X := []) (Y := z_ST cA a) (ci := 12) (fs := df12) C (by decide) (inT (in_t6 (List.mem_of_getElem? (i := 140) rfl)) rfl) (inT (in_t6 (List.mem_of_getElem? (i := 141) rfl)) rfl) (inT (in_t1 (List.mem_of_getElem? (i := 17) rfl)) rfl) df12_ok (Nat.le_of_ble_eq_true rfl) (Nat.le_of_ble_eq_true rfl) (lwtA_ok (8, .new 10, 3) (List.mem_of_getElem? (i := 4) rfl)) (fun q2 => ?_)
  refine cn_nil ?_
  refine n_dup C (lwtA_ok (11, .dup, 1) (List.mem_of_getElem? (i := 5) rfl)) rfl ?_
  refine n_initM (a := a) (st := [.ref q2]) C (inT (in_t6 (List.mem_of_getElem? (i := 144) rfl)) rfl) (inT (in_t1 (List.mem_of_getElem? (i := 17) rfl)) rfl) (inT (in_t6 (List.mem_of_getElem? (i := 142) rfl)) rfl) (inT (in_t6 (List.mem_of_getElem? (i := 143) rfl)) rfl) ⟨(Nat.le_of_ble_eq_true rfl), (Nat.le_of_ble_eq_true rfl)⟩ (Nat.le_of_ble_eq_true rfl) (lwtA_ok (12, .invokespecial 12, 3) (List.mem_of_getElem? (i := 6) rfl)) ⟨(Nat.le_of_ble_eq_true rfl), (Nat.le_of_ble_eq_true rfl)⟩ (fun u σ eu hR hAd hAN => ?_)
  subst eu
  refine n_astore (k := 2) C (lwtA_ok (15, .astore_n 2, 1) (List.mem_of_getElem? (i := 7) rfl)) (by decide) rfl ?_
  refine n_iconst (v := Int32.ofInt 0) C (lwtA_ok (16, .iconst 0, 1) (List.mem_of_getElem? (i := 8) rfl)) rfl ?_
  refine n_istore (k := 3) C (lwtA_ok (17, .istore_n 3, 1) (List.mem_of_getElem? (i := 9) rfl)) (by decide) rfl ?_
  refine n_lvs [3, 2, 1, 0] rfl ?_
  exact law_loop C hr hlk hN hX hAd (fun _ => rfl) hAN 600 0 σ (by omega) (by omega) hR
theorem law_s1 {p : Program} {l : Launch} {e : Env} {s : State} {m : MethodId} {below : List Frame} {meth : Method} {c : Code} {D : va_G} {cA : Nat → ClassId} {N0 b L : Nat} {adK : Nat → Nat} {xs : Nat → Int32} (C : Cc p s m #[Value.ref b] c code D cA N0 adK 4 "SilentTurnLaw") (hr : meth.sig.returnType = ret) (hlk : meth.locks = false) (hN : N0 = s.heap.size) (hX : Scr s N0 b L xs) : Cn p l e room_1 s m #[Value.ref b] below meth c (lw_Z below #[Value.ref b] s) D N0 4 [] 0 [(0, .ref b)] [] 0 0 := by
  refine n_new (X := []) (Y := []) (ci := 11) (fs := df11) C (by decide) (inT (in_t1 (List.mem_of_getElem? (i := 22) rfl)) rfl) (inT (in_t1 (List.mem_of_getElem? (i := 23) rfl)) rfl) (inT (in_t1 (List.mem_of_getElem? (i := 1) rfl)) rfl) df11_ok (Nat.le_of_ble_eq_true rfl) (Nat.le_of_ble_eq_true rfl) (lwtA_ok (0, .new 7, 3) (List.mem_of_getElem? (i := 0) rfl)) (fun q1 => ?_)
  refine n_dup C (lwtA_ok (3, .dup, 1) (List.mem_of_getElem? (i := 1) rfl)) rfl ?_
  refine n_init (X := []) (Y := []) (n := 0) (As := []) (st := [.ref q1]) C (c_ST l D cA N0 adK _ q1) (inT (in_t1 (List.mem_of_getElem? (i := 26) rfl)) rfl) (inT (in_t1 (List.mem_of_getElem? (i := 1) rfl)) rfl) (Or.inl (inT (in_t1 (List.mem_of_getElem? (i := 24) rfl)) rfl)) (inT (in_t1 (List.mem_of_getElem? (i := 25) rfl)) rfl) rfl (by decide +kernel) rfl ⟨(Nat.le_of_ble_eq_true rfl), (Nat.le_of_ble_eq_true rfl)⟩ (Nat.le_of_ble_eq_true rfl) (lwtA_ok (4, .invokespecial 9, 3) (List.mem_of_getElem? (i := 2) rfl)) ⟨(Nat.le_of_ble_eq_true rfl), (Nat.le_of_ble_eq_true rfl)⟩ (fun a ea => ?_)
  subst ea
  refine cn_nil (cn_nil ?_)
  refine n_astore (k := 1) C (lwtA_ok (7, .astore_n 1, 1) (List.mem_of_getElem? (i := 3) rfl)) (by decide) rfl ?_
  exact law_s2 C hr hlk hN hX
/-- from the entry, for every script of at most 3072 ints, the law comes to its end with true -/
theorem whole_start {p : Program} {e : Env} {s : State} {m : MethodId} {below : List Frame} {meth : Method} {c : Code} (l : Launch) {b L : Nat} {xs : Nat → Int32} (hL : L ≤ 3072) (C0 : lw_At p s m meth c b L xs) : W p l e room_1 s m #[Value.ref b] below meth c s.heap [] 0 0 (lw_Z below #[Value.ref b] s) (entryFrame m ([Value.ref b] : List Value).toArray 4) := by
  obtain ⟨hx, hb, hr, hml, hown, hts, hX, hbs, hlk, hg⟩ := C0
  obtain ⟨adK, hW⟩ := st_SW hts hg
  obtain ⟨D, cA, hK⟩ := st_K hts
  have hown2 : s.vm.findClass "SilentTurnLaw" = some m.cls := hown
  have C : Cc p s m #[Value.ref b] c code D cA s.heap.size adK 4 "SilentTurnLaw" := ⟨hx, hb, hown2, hml, fun w hw => hts w (List.mem_filter.mp hw).1, hK, Nat.le_refl _, hW⟩
  have hSc : Scr s s.heap.size b L xs := ⟨hX, hbs, fun z => absurd z (Nat.not_le.mpr hbs), hL⟩
  have hl := lv_entry [Value.ref b] (n := 4) (Nat.le_of_ble_eq_true rfl)
  rw [lg_entry_eq]
  exact law_s1 C hr hlk rfl hSc s.heap [] _ hl (fun k q h => absurd h (by simp)) ⟨fun i j x y h => absurd h (by simp), fun k q h => absurd h (by simp)⟩ va_S.rf
