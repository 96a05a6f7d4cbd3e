section SND2
variable {p : Program} {l : Launch} {e : Env} {R : Room} {s : State} {m : MethodId} {args : Array Value} {below : List Frame} {meth : Method} {c : Code} {Q : State → Prop} {cc : ByteArray} {D : va_G} {ad : Nat × Nat → Nat} {cA : Nat → ClassId} {nL pc : Nat} {own : String} {lv st : List AV} {σ : AM}
theorem vld {t i : Nat} (h : vv (.inr (.inr (t, i)))) (h9 : (sh t).1 ≠ 9) : t < 67 ∧ i < cn t := by
  rcases h with ⟨h1, -⟩ | h | ⟨h1, -⟩
  · subst h1; exact absurd rfl h9
  · exact h
  · subst h1; exact absurd rfl h9
theorem iTg {cI : Nat} (hc : cI < 13) : ∀ w ∈ u_ws (RN cI) (TT cI) (fkl cI).length, w ∈ Tg := by
  intro w hw
  refine inT (iTT cI hc w hw) ?_
  obtain ⟨k, -, rfl⟩ := List.mem_map.mp hw
  unfold u_lay
  split <;> rfl
theorem g_getfield {t i cI k idx : Nat} {av : AV} (C : Cx p s m args c cc D ad cA nL own) (hd : decode cc pc = .ok (.getfield idx, 3)) (hc : cI < 13) (hk : k < (fkl cI).length) (hsh : sh t = (0, cI)) (hln : Cond.fieldLink own idx (TT cI k).1 (TT cI k).2.1 (TT cI k).2.2.1 ∈ Tg) (hav : cv ad av = fval ad σ t i k ((fkl cI).getD k (9, 0, 0))) (hvv : t < 67 → i < cn t → vv av) (kk : Gd p l e R s m args below meth c nL Q D ad cA (pc + 3) lv (av :: st) σ) : Gd p l e R s m args below meth c nL Q D ad cA pc lv (.inr (.inr (t, i)) :: st) σ := by
  intro hl hs H locs ls hP hS hv
  obtain ⟨hx, hb, hown, hml, hts, hK, hA, hW⟩ := C
  obtain ⟨ht, hi⟩ := vld hs.hd (by rw [hsh]; simp)
  have he : (wsA ad cA σ)[ps t + i]? = some (ad (t, i), .inr (cI, flds ad σ t i cI)) := by rw [wsA_at ht hi]; simp [cellOf, hsh]
  exact va_get hx hb hts (iTg hc) hown hK hP (ps t + i) he (clA_at cI hc) k hk (hts _ hln) (fun x h => h) (v := cv ad av) (by rw [flds_get hk, hav]) hd (kk hl (AllV.cons (hvv ht hi) hs.tl) H locs ls hP hS hv)
theorem g_putfield {t i cI k idx : Nat} {av : AV} {σ' : AM} (C : Cx p s m args c cc D ad cA nL own) (hd : decode cc pc = .ok (.putfield idx, 3)) (hc : cI < 13) (hk : k < (fkl cI).length) (hsh : sh t = (0, cI)) (hln : Cond.fieldLink own idx (TT cI k).1 (TT cI k).2.1 (TT cI k).2.2.1 ∈ Tg) (hfin : (TT cI k).2.2.2 = false) (hn : narrow (tyTT cI k) (cv ad av) = cv ad av) (hfit : fits (tyTT cI k) (cv ad av) = true) (hset : flds ad σ' t i cI = (flds ad σ t i cI).set k (cv ad av)) (hne : ∀ q : Nat × Nat, q ≠ (t, i) → σ.1 q.1 q.2 = σ'.1 q.1 q.2 ∧ σ.2.1 q.1 q.2 = σ'.2.1 q.1 q.2 ∧ σ.2.2 q.1 q.2 = σ'.2.2 q.1 q.2) (kk : Gd p l e R s m args below meth c nL Q D ad cA (pc + 3) lv st σ') : Gd p l e R s m args below meth c nL Q D ad cA pc lv (av :: .inr (.inr (t, i)) :: st) σ := by
  intro hl hs H locs ls hP hS hv
  obtain ⟨hx, hb, hown, hml, hts, hK, hA, hW⟩ := C
  obtain ⟨ht, hi⟩ := vld hs.tl.hd (by rw [hsh]; simp)
  have he : (wsA ad cA σ)[ps t + i]? = some (ad (t, i), .inr (cI, flds ad σ t i cI)) := by rw [wsA_at ht hi]; simp [cellOf, hsh]
  refine va_put hx hb hts (iTg hc) (tyTT cI) (yTT cI hc) (nTT cI hc) hown hK hP (wsA_D hA) hS (ps t + i) he (clA_at cI hc) k hk (hts _ hln) (fun x h => h) hfin (yTT cI hc k hk) hn hfit (by rw [flds_len]; exact hk) hd (fun H1 locs1 hP1 _ hS1 => ?_)
  rw [wsA_set (σ' := σ') ht hi (by simp [cellOf, hsh, hset]) hne] at hP1
  exact kk hl hs.tl.tl H1 locs1 ls hP1 hS1 hv
theorem g_iaload {t i n : Nat} {j : Int32} (C : Cx p s m args c cc D ad cA nL own) (hd : decode cc pc = .ok (.iaload, 1)) (hsh : sh t = (1, n)) (hin : vp_in j n) (kk : Gd p l e R s m args below meth c nL Q D ad cA (pc + 1) lv (.inl (σ.1 t i j.toNatClampNeg) :: st) σ) : Gd p l e R s m args below meth c nL Q D ad cA pc lv (.inl j :: .inr (.inr (t, i)) :: st) σ := by
  intro hl hs H locs ls hP hS hv
  obtain ⟨hx, hb, hown, hml, hts, hK, hA, hW⟩ := C
  obtain ⟨ht, hi⟩ := vld hs.tl.hd (by rw [hsh]; simp)
  exact va_iald hx hb hK hP (ps t + i) 0 (cA := cA 1) (n := n) (f := σ.1 t i) (by rw [wsA_at ht hi]; simp [cellOf, hsh]) rfl hin hd (kk hl (AllV.cons trivial hs.tl.tl) H locs ls hP hS hv)
theorem g_baload {t i n kd : Nat} {j : Int32} (C : Cx p s m args c cc D ad cA nL own) (hd : decode cc pc = .ok (.baload, 1)) (hsh : sh t = (kd, n)) (hk : kd = 3 ∨ kd = 4) (hin : vp_in j n) (kk : Gd p l e R s m args below meth c nL Q D ad cA (pc + 1) lv (.inl (σ.1 t i j.toNatClampNeg) :: st) σ) : Gd p l e R s m args below meth c nL Q D ad cA pc lv (.inl j :: .inr (.inr (t, i)) :: st) σ := by
  intro hl hs H locs ls hP hS hv
  obtain ⟨hx, hb, hown, hml, hts, hK, hA, hW⟩ := C
  rcases hk with rfl | rfl
  · obtain ⟨ht, hi⟩ := vld hs.tl.hd (by rw [hsh]; simp)
    exact va_bald hx hb hK hP (ps t + i) 2 (cA := cA 3) (n := n) (f := σ.1 t i) (by rw [wsA_at ht hi]; simp [cellOf, hsh]) rfl hin hd (kk hl (AllV.cons trivial hs.tl.tl) H locs ls hP hS hv)
  · obtain ⟨ht, hi⟩ := vld hs.tl.hd (by rw [hsh]; simp)
    exact va_zald hx hb hK hP (ps t + i) 3 (cA := cA 4) (n := n) (f := σ.1 t i) (by rw [wsA_at ht hi]; simp [cellOf, hsh]) rfl hin hd (kk hl (AllV.cons trivial hs.tl.tl) H locs ls hP hS hv)
theorem g_laload {t i n : Nat} {j : Int32} (C : Cx p s m args c cc D ad cA nL own) (hd : decode cc pc = .ok (.laload, 1)) (hsh : sh t = (2, n)) (hin : vp_in j n) (kk : Gd p l e R s m args below meth c nL Q D ad cA (pc + 1) lv (.inr (.inl (σ.2.1 t i j.toNatClampNeg)) :: st) σ) : Gd p l e R s m args below meth c nL Q D ad cA pc lv (.inl j :: .inr (.inr (t, i)) :: st) σ := by
  intro hl hs H locs ls hP hS hv
  obtain ⟨hx, hb, hown, hml, hts, hK, hA, hW⟩ := C
  obtain ⟨ht, hi⟩ := vld hs.tl.hd (by rw [hsh]; simp)
  exact va_lald hx hb hK hP (ps t + i) 1 (cA := cA 2) (n := n) (f := σ.2.1 t i) (by rw [wsA_at ht hi]; simp [cellOf, hsh]) rfl hin hd (kk hl (AllV.cons trivial hs.tl.tl) H locs ls hP hS hv)
/-- arrays of references: what they hold are cells that there are -/
theorem elt_ok : ∀ t, t < 67 → (sh t).1 = 5 → (elt t).1 < 67 ∧ (elt t).2 + (sh t).2 ≤ cn (elt t).1 ∧ (rkt t = 5 ∨ rkt t = 6 ∨ rkt t = 7) := by decide +kernel
theorem g_aaload {t i n u d : Nat} {j : Int32} (C : Cx p s m args c cc D ad cA nL own) (hd : decode cc pc = .ok (.aaload, 1)) (hsh : sh t = (5, n)) (hel : elt t = (u, d)) (hin : vp_in j n) (kk : Gd p l e R s m args below meth c nL Q D ad cA (pc + 1) lv (.inr (.inr (u, d + j.toNatClampNeg)) :: st) σ) : Gd p l e R s m args below meth c nL Q D ad cA pc lv (.inl j :: .inr (.inr (t, i)) :: st) σ := by
  intro hl hs H locs ls hP hS hv
  obtain ⟨hx, hb, hown, hml, hts, hK, hA, hW⟩ := C
  obtain ⟨ht, hi⟩ := vld hs.tl.hd (by rw [hsh]; simp)
  obtain ⟨h1, h2, h3⟩ := elt_ok t ht (by rw [hsh])
  rw [hel, hsh] at h2
  rw [hel] at h1
  have hlt : j.toNatClampNeg < n := Nat.not_le.mp fun q => hin (Or.inr q)
  have hvq : vv (.inr (.inr (u, d + j.toNatClampNeg))) := Or.inr (Or.inl ⟨h1, by dsimp only at h2; omega⟩)
  have key := kk hl (AllV.cons hvq hs.tl.tl) H locs ls hP hS hv
  have ha : (wsA ad cA σ)[ps t + i]? = some (ad (t, i), .inl (cA (rkt t), n, .inr (.inr (.inr (.inr (fun x => some (ad ((elt t).1, (elt t).2 + x)))))))) := by rw [wsA_at ht hi]; simp [cellOf, hsh]
  rw [hel] at ha
  rcases h3 with h3 | h3 | h3 <;> rw [h3] at ha
  · exact va_aldq hx hb hK hP (ps t + i) 4 ha rfl hin hd key
  · exact va_aldq hx hb hK hP (ps t + i) 5 ha rfl hin hd key
  · exact va_aldq hx hb hK hP (ps t + i) 6 ha rfl hin hd key
theorem g_arraylength {t i n kd : Nat} (C : Cx p s m args c cc D ad cA nL own) (hd : decode cc pc = .ok (.arraylength, 1)) (hsh : sh t = (kd, n)) (hk : kd = 1 ∨ kd = 2) (kk : Gd p l e R s m args below meth c nL Q D ad cA (pc + 1) lv (.inl (Int32.ofInt (n : Int)) :: st) σ) : Gd p l e R s m args below meth c nL Q D ad cA pc lv (.inr (.inr (t, i)) :: st) σ := by
  intro hl hs H locs ls hP hS hv
  obtain ⟨hx, hb, hown, hml, hts, hK, hA, hW⟩ := C
  rcases hk with rfl | rfl
  · obtain ⟨ht, hi⟩ := vld hs.hd (by rw [hsh]; simp)
    exact va_alen hx hb hK hP (ps t + i) 0 (cA := cA 1) (x := (n, .inl (σ.1 t i))) (by rw [wsA_at ht hi]; simp [cellOf, hsh]) (ty := .int) rfl rfl hd (kk hl (AllV.cons trivial hs.tl) H locs ls hP hS hv)
  · obtain ⟨ht, hi⟩ := vld hs.hd (by rw [hsh]; simp)
    exact va_alen hx hb hK hP (ps t + i) 1 (cA := cA 2) (x := (n, .inr (.inl (σ.2.1 t i)))) (by rw [wsA_at ht hi]; simp [cellOf, hsh]) (ty := .long) rfl rfl hd (kk hl (AllV.cons trivial hs.tl) H locs ls hP hS hv)
theorem g_iastore {t i n : Nat} {j x : Int32} (C : Cx p s m args c cc D ad cA nL own) (hd : decode cc pc = .ok (.iastore, 1)) (hsh : sh t = (1, n)) (hin : vp_in j n) (kk : Gd p l e R s m args below meth c nL Q D ad cA (pc + 1) lv st (wI σ t i j.toNatClampNeg x)) : Gd p l e R s m args below meth c nL Q D ad cA pc lv (.inl x :: .inl j :: .inr (.inr (t, i)) :: st) σ := by
  intro hl hs H locs ls hP hS hv
  obtain ⟨hx, hb, hown, hml, hts, hK, hA, hW⟩ := C
  obtain ⟨ht, hi⟩ := vld hs.tl.tl.hd (by rw [hsh]; simp)
  refine va_iast hx hb hK hP (wsA_D hA) hS (ps t + i) 0 (cA := cA 1) (n := n) (f := σ.1 t i) (by rw [wsA_at ht hi]; simp [cellOf, hsh]) rfl hin hd (fun H1 locs1 hP1 _ hS1 => ?_)
  rw [wsA_set (σ' := wI σ t i j.toNatClampNeg x) ht hi (by simp [cellOf, hsh, upd_wI]) (wI_ne _ _ _ _ _)] at hP1
  exact kk hl hs.tl.tl.tl H1 locs1 ls hP1 hS1 hv
theorem g_lastore {t i n : Nat} {j : Int32} {x : Int64} (C : Cx p s m args c cc D ad cA nL own) (hd : decode cc pc = .ok (.lastore, 1)) (hsh : sh t = (2, n)) (hin : vp_in j n) (kk : Gd p l e R s m args below meth c nL Q D ad cA (pc + 1) lv st (wL σ t i j.toNatClampNeg x)) : Gd p l e R s m args below meth c nL Q D ad cA pc lv (.inr (.inl x) :: .inl j :: .inr (.inr (t, i)) :: st) σ := by
  intro hl hs H locs ls hP hS hv
  obtain ⟨hx, hb, hown, hml, hts, hK, hA, hW⟩ := C
  obtain ⟨ht, hi⟩ := vld hs.tl.tl.hd (by rw [hsh]; simp)
  refine va_last hx hb hK hP (wsA_D hA) hS (ps t + i) 1 (cA := cA 2) (n := n) (f := σ.2.1 t i) (by rw [wsA_at ht hi]; simp [cellOf, hsh]) rfl hin hd (fun H1 locs1 hP1 _ hS1 => ?_)
  rw [wsA_set (σ' := wL σ t i j.toNatClampNeg x) ht hi (by simp [cellOf, hsh, upd_wL]) (wL_ne _ _ _ _ _)] at hP1
  exact kk hl hs.tl.tl.tl H1 locs1 ls hP1 hS1 hv
theorem g_bastoreB {t i n : Nat} {j x : Int32} (C : Cx p s m args c cc D ad cA nL own) (hd : decode cc pc = .ok (.bastore, 1)) (hsh : sh t = (3, n)) (hin : vp_in j n) (kk : Gd p l e R s m args below meth c nL Q D ad cA (pc + 1) lv st (wI σ t i j.toNatClampNeg x.toInt8.toInt32)) : Gd p l e R s m args below meth c nL Q D ad cA pc lv (.inl x :: .inl j :: .inr (.inr (t, i)) :: st) σ := by
  intro hl hs H locs ls hP hS hv
  obtain ⟨hx, hb, hown, hml, hts, hK, hA, hW⟩ := C
  obtain ⟨ht, hi⟩ := vld hs.tl.tl.hd (by rw [hsh]; simp)
  refine va_bast hx hb hK hP (wsA_D hA) hS (ps t + i) 2 (cA := cA 3) (n := n) (f := σ.1 t i) (by rw [wsA_at ht hi]; simp [cellOf, hsh]) rfl hin hd (fun H1 locs1 hP1 _ hS1 => ?_)
  rw [vp_nar_byte, wsA_set (σ' := wI σ t i j.toNatClampNeg x.toInt8.toInt32) ht hi (by simp [cellOf, hsh, upd_wI]) (wI_ne _ _ _ _ _)] at hP1
  exact kk hl hs.tl.tl.tl H1 locs1 ls hP1 hS1 hv
theorem nar_bool {x : Int32} (h : x = 0 ∨ x = 1) : vp_nar .boolean x = x ∧ narrow .boolean (.int x) = .int x ∧ fits .boolean (.int x) = true := by
  rcases h with rfl | rfl <;> refine ⟨?_, ?_, ?_⟩ <;> rfl
theorem g_bastoreZ {t i n : Nat} {j x : Int32} (C : Cx p s m args c cc D ad cA nL own) (hd : decode cc pc = .ok (.bastore, 1)) (hsh : sh t = (4, n)) (hin : vp_in j n) (h01 : x = 0 ∨ x = 1) (kk : Gd p l e R s m args below meth c nL Q D ad cA (pc + 1) lv st (wI σ t i j.toNatClampNeg x)) : Gd p l e R s m args below meth c nL Q D ad cA pc lv (.inl x :: .inl j :: .inr (.inr (t, i)) :: st) σ := by
  intro hl hs H locs ls hP hS hv
  obtain ⟨hx, hb, hown, hml, hts, hK, hA, hW⟩ := C
  obtain ⟨ht, hi⟩ := vld hs.tl.tl.hd (by rw [hsh]; simp)
  refine va_zast hx hb hK hP (wsA_D hA) hS (ps t + i) 3 (cA := cA 4) (n := n) (f := σ.1 t i) (by rw [wsA_at ht hi]; simp [cellOf, hsh]) rfl hin hd (fun H1 locs1 hP1 _ hS1 => ?_)
  rw [(nar_bool h01).1, wsA_set (σ' := wI σ t i j.toNatClampNeg x) ht hi (by simp [cellOf, hsh, upd_wI]) (wI_ne _ _ _ _ _)] at hP1
  exact kk hl hs.tl.tl.tl H1 locs1 ls hP1 hS1 hv
theorem g_tableswitch {dflt lo hi : Int} {offs : Array Int} {len a : Nat} {x : Int32} {ts : List Nat} (C : Cx p s m args c cc D ad cA nL own) (hd : decode cc pc = .ok (.tableswitch dflt lo hi offs, len)) (hdf : (pc : Int) + dflt = (a : Int)) (hts : offs.toList.map (fun o => (pc : Int) + o) = ts.map (fun (t : Nat) => (t : Int))) (hn : hi = lo + (ts.length : Int) - 1)
    (hJ : swT (Gd p l e R s m args below meth c nL Q D ad cA) x lv st σ lo ts) (hD : x.toInt < lo ∨ hi < x.toInt → Gd p l e R s m args below meth c nL Q D ad cA a lv st σ) : Gd p l e R s m args below meth c nL Q D ad cA pc lv (.inl x :: st) σ := by
  intro hl hs H locs ls hP hS hv
  obtain ⟨hx, hb, -⟩ := C
  by_cases hout : x.toInt < lo ∨ hi < x.toInt
  · exact lv_tableOut hx hb hd hout hdf (hD hout hl hs.tl H locs ls hP hS hv)
  · have h1 : ¬ x.toInt < lo := fun h => hout (Or.inl h)
    have h2 : ¬ hi < x.toInt := fun h => hout (Or.inr h)
    have key : ∀ (ts : List Nat) (lo : Int) (n : Nat) (t : Nat), swT (Gd p l e R s m args below meth c nL Q D ad cA) x lv st σ lo ts → ts[n]? = some t → x.toInt = lo + n → Gd p l e R s m args below meth c nL Q D ad cA t lv st σ := by
      intro ts
      induction ts with
      | nil => intro lo n t _ h; simp at h
      | cons t0 r ih =>
        intro lo n t hw h he
        cases n with
        | zero =>
          rw [List.getElem?_cons_zero] at h
          cases h
          exact hw.1 (by omega)
        | succ n =>
          rw [List.getElem?_cons_succ] at h
          exact ih (lo + 1) n t hw.2 h (by omega)
    obtain ⟨n, hn2⟩ : ∃ n : Nat, x.toInt = lo + n := ⟨(x.toInt - lo).toNat, by omega⟩
    have hnl : n < ts.length := by omega
    have hg : ts[n]? = some ts[n] := List.getElem?_eq_getElem hnl
    have ho : (offs.toList.map (fun o => (pc : Int) + o))[n]? = some ((ts[n] : Nat) : Int) := by rw [hts, List.getElem?_map, hg]; rfl
    rw [List.getElem?_map] at ho
    cases hoo : offs.toList[n]? with
    | none => rw [hoo] at ho; cases ho
    | some o =>
      rw [hoo] at ho
      refine lv_tableIn hx hb hd h1 h2 (off := o) (tgt := ts[n]) ?_ (Option.some.inj ho) (key ts lo n _ hJ hg hn2 hl hs.tl H locs ls hP hS hv)
      rw [show (x.toInt - lo).toNat = n by omega, ← Array.getElem?_toList]
      exact hoo
theorem g_lookupswitch {dflt : Int} {pps : Array (Int × Int)} {len a : Nat} {x : Int32} {ts : List Nat} (C : Cx p s m args c cc D ad cA nL own) (hd : decode cc pc = .ok (.lookupswitch dflt pps, len)) (hp : (pps.toList.zip (pps.toList.drop 1)).all (fun (a, next) => a.1 < next.1) = true) (hdf : (pc : Int) + dflt = (a : Int)) (hts : pps.toList.map (fun o => (pc : Int) + o.2) = ts.map (fun (t : Nat) => (t : Int)))
    (hJ : swL (Gd p l e R s m args below meth c nL Q D ad cA) x lv st σ a pps.toList ts) : Gd p l e R s m args below meth c nL Q D ad cA pc lv (.inl x :: st) σ := by
  intro hl hs H locs ls hP hS hv
  obtain ⟨hx, hb, -⟩ := C
  have key : ∀ (qs : List (Int × Int)) (ts : List Nat), qs.map (fun o => (pc : Int) + o.2) = ts.map (fun (t : Nat) => (t : Int)) → swL (Gd p l e R s m args below meth c nL Q D ad cA) x lv st σ a qs ts → ∃ tgt : Nat, (pc : Int) + Op.lookupswitch.offset qs dflt x.toInt = (tgt : Int) ∧ Gd p l e R s m args below meth c nL Q D ad cA tgt lv st σ := by
    intro qs
    induction qs with
    | nil =>
      intro ts _ h
      refine ⟨a, ?_, ?_⟩
      · simpa [Op.lookupswitch.offset] using hdf
      · cases ts <;> exact h
    | cons q r ih =>
      intro ts he h
      obtain ⟨k, o⟩ := q
      cases ts with
      | nil => simp at he
      | cons t0 rt =>
        simp only [List.map_cons, List.cons.injEq] at he
        by_cases hk : x.toInt = k
        · refine ⟨t0, ?_, h.1 hk⟩
          simpa [Op.lookupswitch.offset, hk] using he.1
        · obtain ⟨tgt, h1, h2⟩ := ih rt he.2 (h.2 hk)
          refine ⟨tgt, ?_, h2⟩
          have hk2 : ¬ k = x.toInt := fun z => hk z.symm
          simpa [Op.lookupswitch.offset, hk, hk2] using h1
  obtain ⟨tgt, h1, h2⟩ := key pps.toList ts hts hJ
  exact lv_lookup hx hb hd hp rfl h1 (h2 hl hs.tl H locs ls hP hS hv)
end SND2
