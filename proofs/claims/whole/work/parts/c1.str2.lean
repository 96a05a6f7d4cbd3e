theorem d_pch0 : decode prog_22_method_11_code 0 = .ok (.iload_n 0, 1) := by decide +kernel
theorem d_pch1 : decode prog_22_method_11_code 1 = .ok (.ifCond .lt 8, 3) := by decide +kernel
theorem d_pch4 : decode prog_22_method_11_code 4 = .ok (.iload_n 0, 1) := by decide +kernel
theorem d_pch5 : decode prog_22_method_11_code 5 = .ok (.iload_n 1, 1) := by decide +kernel
theorem d_pch6 : decode prog_22_method_11_code 6 = .ok (.if_icmp .lt 10, 3) := by decide +kernel
theorem d_pch16 : decode prog_22_method_11_code 16 = .ok (.iload_n 0, 1) := by decide +kernel
theorem d_pch17 : decode prog_22_method_11_code 17 = .ok (.ireturn, 1) := by decide +kernel
theorem k_pch (l : Launch) (adK adV : Nat → Nat) {j n : Int32} (fm : Value) (hfm : fm = .null ∨ ∃ t : Nat, fm = .ref t) (h0 : ¬ j < 0) (h1 : j < n) : Met l yP_chk (wS yP_chk prog_22_method_11_code 3 (some .int)) (rmS 1) (va_Pc [.int j, .int n, fm] (fun U => SpW adK adV U U.heap)) (Qs j) 0 0 nA := by
  refine Met.ofW (cc := prog_22_method_11_code) (maxL := 3) (ret := some .int) (by decide) rfl ?_
  intro p e s m args below meth c s₁ B hml hv
  obtain ⟨rfl, hSp⟩ := hv
  have hx := B.exec
  have hb := B.bytes
  have hr := B.returns
  have hlocks := B.notSynchronized
  have hl : ∃ ls : Array Slot, lv_has ls 3 [(0, .int j), (1, .int n)] ∧ entryFrame m ([.int j, .int n, fm] : List Value).toArray 3 = F0 m 0 ls [] := by
    rcases hfm with e1 | ⟨t, e1⟩
    · subst e1
      exact ⟨_, lv_sub (lv_entry ([.int j, .int n, .null]) (n := 3) (Nat.le_of_ble_eq_true rfl)) [0, 1] rfl, lg_entry_eq _ _ _⟩
    · subst e1
      exact ⟨_, lv_sub (lv_entry ([.int j, .int n, .ref t]) (n := 3) (Nat.le_of_ble_eq_true rfl)) [0, 1] rfl, lg_entry_eq _ _ _⟩
  obtain ⟨ls, hl, he⟩ := hl
  rw [he]
  refine lv_iload_n hx hb d_pch0 rfl (lv_at hl 0 rfl) ?_
  refine lv_if_lt (tgt := 9) hx hb d_pch1 (by decide) (fun c0 => absurd c0 h0) (fun _ => ?_)
  refine lv_iload_n hx hb d_pch4 rfl (lv_at hl 0 rfl) ?_
  refine lv_iload_n hx hb d_pch5 rfl (lv_at hl 1 rfl) ?_
  refine lv_icmp_lt (tgt := 16) hx hb d_pch6 (by decide) (fun _ => ?_) (fun c0 => absurd h1 c0)
  refine lv_iload_n hx hb d_pch16 rfl (lv_at hl 0 rfl) ?_
  exact W.iret hx hb hr (fun t ht _ => ⟨rfl, ht⟩) (fun q h => absurd h List.not_mem_nil) d_pch17
theorem d_chk0 : decode prog_17_method_155_code 0 = .ok (.iload_n 0, 1) := by decide +kernel
theorem d_chk1 : decode prog_17_method_155_code 1 = .ok (.iload_n 1, 1) := by decide +kernel
theorem d_chk2 : decode prog_17_method_155_code 2 = .ok (.getstatic 1053, 3) := by decide +kernel
theorem d_chk5 : decode prog_17_method_155_code 5 = .ok (.invokestatic 1059, 3) := by decide +kernel
theorem d_chk8 : decode prog_17_method_155_code 8 = .ok (.pop, 1) := by decide +kernel
theorem d_chk9 : decode prog_17_method_155_code 9 = .ok (.return_, 1) := by decide +kernel
theorem k_chk (l : Launch) (adK adV : Nat → Nat) {j n : Int32} (h0 : ¬ j < 0) (h1 : j < n) : Met l yS_chk (wS yS_chk prog_17_method_155_code 2 none) (rmS 2) (va_Pc [.int j, .int n] (fun U => SpW adK adV U U.heap)) Qs0 0 0 nA := by
  refine Met.ofW (cc := prog_17_method_155_code) (maxL := 2) (ret := none) (by decide) rfl ?_
  intro p e s m args below meth c s₁ B hml hv
  obtain ⟨rfl, hSp⟩ := hv
  have hx := B.exec
  have hb := B.bytes
  have hr := B.returns
  have hts : ∀ w ∈ Tg, w.before _ s = true := fun w hw => atoms_spec (ws := wS yS_chk prog_17_method_155_code 2 none) B.pre w (List.mem_cons_of_mem _ hw)
  have hown : s.vm.findClass "java/lang/String" = some m.cls := findClass_of_methodNamed B.named
  have hlocks := B.notSynchronized
  have hS : va_S nA s.heap s.heap [] := va_S.rf
  have hl := lv_entry ([.int j, .int n]) (n := 2) (Nat.le_of_ble_eq_true rfl)
  rw [lg_entry_eq]
  generalize (lg_sl ([.int j, .int n]) ++ List.replicate (2 - (lg_sl ([.int j, .int n])).length) Slot.unset).toArray = ls at hl ⊢
  have hl : lv_has ls 2 [(0, .int j), (1, .int n)] := hl
  refine lv_iload_n hx hb d_chk0 rfl (lv_at hl 0 rfl) ?_
  refine lv_iload_n hx hb d_chk1 rfl (lv_at hl 1 rfl) ?_
  have fin : ∀ fm : Value, (fm = .null ∨ ∃ t : Nat, fm = .ref t) → W p l e (headSpec (wS yS_chk prog_17_method_155_code 2 none) (rmS 2)).room s m [Value.int j, Value.int n].toArray below meth c s.heap [] 0 0 (MQ below Qs0 [Value.int j, Value.int n].toArray s 0 0 nA) (F0 m 5 ls [fm, .int n, .int j]) := by
    intro fm hfm
    have hrun := va_runS (p := p) (l := l) (e := e) (below := below) (meth := meth) (locs := []) (cells := 0) (slots := 0) (R := rmS 2) (H := s.heap) (Ts := Tg) (nL := 2) (own := "java/lang/String") (As := [.int j, .int n, fm]) (rest := []) (g := F0 m 5 ls [fm, .int n, .int j]) ⟨hx, hb, hml, hown, hts⟩ (k_pch l adK adV fm hfm h0 h1) ⟨cbS (n := 3) hts tS1.2.2.2.2.2.2 tS2.2.2 tS4.2.2.2.2.1 (by decide +kernel) ⟨by decide, by decide⟩, hts _ tS5.2.2.2.2.2.2⟩ ⟨SpW_blind, fun U hU hW => ⟨rfl, hSp.on hU hW⟩⟩ rfl rfl hl.1 rfl (lv_room (Nat.le_of_ble_eq_true rfl)) d_chk5 ⟨Nat.le_refl _, Nat.le_refl _⟩
    refine va_callP hrun ?_
    refine lv_pop hx hb d_chk8 rfl ?_
    exact W.vret hx hb hr (fun t ht _ => ⟨rfl, ht⟩) (fun q h => absurd h List.not_mem_nil) d_chk9
  rcases hSp.2.2 with hz | ⟨t, hz⟩
  · exact va_gets hx hb hz hS hown (hts _ tS3.2.1) (fun _ h => h) d_chk2 (fin _ (Or.inl rfl))
  · exact va_gets hx hb hz hS hown (hts _ tS3.2.1) (fun _ h => h) d_chk2 (fin _ (Or.inr ⟨t, rfl⟩))
theorem d_lch0 : decode prog_18_method_2_code 0 = .ok (.iload_n 1, 1) := by decide +kernel
theorem d_lch1 : decode prog_18_method_2_code 1 = .ok (.aload_n 0, 1) := by decide +kernel
theorem d_lch2 : decode prog_18_method_2_code 2 = .ok (.arraylength, 1) := by decide +kernel
theorem d_lch3 : decode prog_18_method_2_code 3 = .ok (.invokestatic 9, 3) := by decide +kernel
theorem d_lch6 : decode prog_18_method_2_code 6 = .ok (.aload_n 0, 1) := by decide +kernel
theorem d_lch7 : decode prog_18_method_2_code 7 = .ok (.iload_n 1, 1) := by decide +kernel
theorem d_lch8 : decode prog_18_method_2_code 8 = .ok (.baload, 1) := by decide +kernel
theorem d_lch9 : decode prog_18_method_2_code 9 = .ok (.sipush 255, 3) := by decide +kernel
theorem d_lch12 : decode prog_18_method_2_code 12 = .ok (.iand, 1) := by decide +kernel
theorem d_lch13 : decode prog_18_method_2_code 13 = .ok (.i2c, 1) := by decide +kernel
theorem d_lch14 : decode prog_18_method_2_code 14 = .ok (.ireturn, 1) := by decide +kernel
theorem chr_ok : ∀ i, i < 2 → ∀ j, j < slen i → ((((bytS.getD i []).getD j 0) &&& 255).toUInt32 % 65536).toInt32 = schr i j ∧ narrow .char (.int (schr i j)) = .int (schr i j) := by decide +kernel
theorem vp_lt {j : Int32} {N : Nat} (h : vp_in j N) (hN : N < 1000) : ¬ j < 0 ∧ j < Int32.ofInt (N : Int) ∧ j.toNatClampNeg < N := by
  obtain ⟨z, rfl, z1, z2⟩ := oi_ex j
  rw [oi_in z1 z2] at h
  refine ⟨?_, ?_, ?_⟩
  · rw [oi_lt0 z1 z2]; omega
  · rw [oi_lt z1 z2 (by omega) (by omega)]; omega
  · rw [oi_nat z1 z2]; omega
theorem k_lch (l : Launch) (adK adV : Nat → Nat) {i : Nat} (hi : i < 2) {j : Int32} (hj : vp_in j (slen i)) : Met l yL_cha (wS yL_cha prog_18_method_2_code 2 (some .char)) (rmS 3) (va_Pc [.ref (adV i), .int j] (fun U => SpW adK adV U U.heap)) (Qs (schr i j.toNatClampNeg)) 0 0 nA := by
  obtain ⟨l1, l2, l3, l4, l5⟩ := len_ok i hi
  obtain ⟨j1, j2, j3⟩ := vp_lt hj l5
  obtain ⟨c1, c2⟩ := chr_ok i hi _ j3
  refine Met.ofW (cc := prog_18_method_2_code) (maxL := 2) (ret := some .char) (by decide) rfl ?_
  intro p e s m args below meth c s₁ B hml hv
  obtain ⟨rfl, hSp⟩ := hv
  have hx := B.exec
  have hb := B.bytes
  have hr := B.returns
  have hts : ∀ w ∈ Tg, w.before _ s = true := fun w hw => atoms_spec (ws := wS yL_cha prog_18_method_2_code 2 (some .char)) B.pre w (List.mem_cons_of_mem _ hw)
  have hown : s.vm.findClass "java/lang/StringLatin1" = some m.cls := findClass_of_methodNamed B.named
  have hlocks := B.notSynchronized
  have hS : va_S nA s.heap s.heap [] := va_S.rf
  have hl := lv_entry ([.ref (adV i), .int j]) (n := 2) (Nat.le_of_ble_eq_true rfl)
  rw [lg_entry_eq]
  generalize (lg_sl ([.ref (adV i), .int j]) ++ List.replicate (2 - (lg_sl ([.ref (adV i), .int j])).length) Slot.unset).toArray = ls at hl ⊢
  have hl : lv_has ls 2 [(0, .ref (adV i)), (1, .int j)] := hl
  obtain ⟨cell, t1, t2, t3, t4, t5, t6, t7⟩ := (hSp.1.1 i hi).2.2.2
  refine lv_iload_n hx hb d_lch0 rfl (lv_at hl 1 rfl) ?_
  refine lv_aload_n hx hb d_lch1 rfl (lv_at hl 0 rfl) ?_
  refine W.alen (n := Int32.ofInt (slen i : Int)) hx hb t1 t2 (t5.trans l2) rfl rfl d_lch2 ?_
  have hrun := va_runS (p := p) (l := l) (e := e) (below := below) (meth := meth) (locs := []) (cells := 0) (slots := 0) (R := rmS 3) (H := s.heap) (Ts := Tg) (nL := 2) (own := "java/lang/StringLatin1") (As := [.int j, .int (Int32.ofInt (slen i : Int))]) (rest := []) (g := F0 m 3 ls [.int (Int32.ofInt (slen i : Int)), .int j]) ⟨hx, hb, hml, hown, hts⟩ (k_chk l adK adV j1 j2) ⟨cbS (n := 2) hts tS1.2.2.2.2.1 tS2.1 tS4.2.2.2.1 (by decide +kernel) ⟨by decide, by decide⟩, hts _ tS5.2.2.2.2.1⟩ ⟨SpW_blind, fun U hU hW => ⟨rfl, hSp.on hU hW⟩⟩ rfl rfl hl.1 rfl (lv_room (Nat.le_of_ble_eq_true rfl)) d_lch3 ⟨Nat.le_refl _, Nat.le_refl _⟩
  refine va_callP0 hrun ?_
  refine lv_aload_n hx hb d_lch6 rfl (lv_at hl 0 rfl) ?_
  refine lv_iload_n hx hb d_lch7 rfl (lv_at hl 1 rfl) ?_
  refine W.bald hx hb t1 t2 t3 (fun q => q.elim j1 (fun q => by omega)) (t6 _ (by omega)) rfl rfl d_lch8 ?_
  refine lv_sipush (v := 255) hx hb d_lch9 (by decide) ?_
  refine lv_iand hx hb d_lch12 ?_
  refine lv_i2c hx hb d_lch13 c1 ?_
  exact W.zret hx hb hr c2 (fun t ht _ => ⟨rfl, ht⟩) (fun q h => absurd h List.not_mem_nil) d_lch14
theorem d_cha0 : decode prog_17_method_56_code 0 = .ok (.aload_n 0, 1) := by decide +kernel
theorem d_cha1 : decode prog_17_method_56_code 1 = .ok (.invokevirtual 492, 3) := by decide +kernel
theorem d_cha4 : decode prog_17_method_56_code 4 = .ok (.ifCond .eq 12, 3) := by decide +kernel
theorem d_cha7 : decode prog_17_method_56_code 7 = .ok (.aload_n 0, 1) := by decide +kernel
theorem d_cha8 : decode prog_17_method_56_code 8 = .ok (.getfield 9, 3) := by decide +kernel
theorem d_cha11 : decode prog_17_method_56_code 11 = .ok (.iload_n 1, 1) := by decide +kernel
theorem d_cha12 : decode prog_17_method_56_code 12 = .ok (.invokestatic 495, 3) := by decide +kernel
theorem d_cha15 : decode prog_17_method_56_code 15 = .ok (.ireturn, 1) := by decide +kernel
theorem k_cha (l : Launch) (adK adV : Nat → Nat) {i : Nat} (hi : i < 2) {j : Int32} (hj : vp_in j (slen i)) : Met l yS_cha (wS yS_cha prog_17_method_56_code 2 (some .char)) (rmS 4) (va_Pc [.ref (adK i), .int j] (fun U => SpW adK adV U U.heap)) (Qs (schr i j.toNatClampNeg)) 0 0 nA := by
  obtain ⟨l1, l2, l3, l4, l5⟩ := len_ok i hi
  obtain ⟨j1, j2, j3⟩ := vp_lt hj l5
  obtain ⟨c1, c2⟩ := chr_ok i hi _ j3
  refine Met.ofW (cc := prog_17_method_56_code) (maxL := 2) (ret := some .char) (by decide) rfl ?_
  intro p e s m args below meth c s₁ B hml hv
  obtain ⟨rfl, hSp⟩ := hv
  have hx := B.exec
  have hb := B.bytes
  have hr := B.returns
  have hts : ∀ w ∈ Tg, w.before _ s = true := fun w hw => atoms_spec (ws := wS yS_cha prog_17_method_56_code 2 (some .char)) B.pre w (List.mem_cons_of_mem _ hw)
  have hown : s.vm.findClass "java/lang/String" = some m.cls := findClass_of_methodNamed B.named
  have hlocks := B.notSynchronized
  have hS : va_S nA s.heap s.heap [] := va_S.rf
  have hl := lv_entry ([.ref (adK i), .int j]) (n := 2) (Nat.le_of_ble_eq_true rfl)
  rw [lg_entry_eq]
  generalize (lg_sl ([.ref (adK i), .int j]) ++ List.replicate (2 - (lg_sl ([.ref (adK i), .int j])).length) Slot.unset).toArray = ls at hl ⊢
  have hl : lv_has ls 2 [(0, .ref (adK i)), (1, .int j)] := hl
  refine lv_aload_n hx hb d_cha0 rfl (lv_at hl 0 rfl) ?_
  have hrun := va_runV (p := p) (l := l) (e := e) (below := below) (meth := meth) (locs := []) (cells := 0) (slots := 0) (R := rmS 4) (H := s.heap) (Ts := Tg) (nL := 2) (own := "java/lang/String") (b := adK i) (As := []) (rest := []) (g := F0 m 1 ls [.ref (adK i)]) ⟨hx, hb, hml, hown, hts⟩ (k_lat l adK adV hi) ⟨cbS (n := 0) hts tS1.2.2.2.1 tS2.1 tS4.2.1 (by decide +kernel) ⟨by decide, by decide⟩, hts _ tS5.2.2.2.1, hts _ tS6.2.2.2⟩ ⟨SpW_blind, vk_recv hSp.1 hi hS, fun U hU hW => ⟨rfl, hSp.on hU hW⟩⟩ rfl rfl hl.1 rfl (lv_room (Nat.le_of_ble_eq_true rfl)) d_cha1 ⟨Nat.le_refl _, Nat.le_refl _⟩
  refine va_callP hrun ?_
  refine lv_if_eq (tgt := 16) hx hb d_cha4 (by decide) (fun c0 => absurd c0 (by decide)) (fun _ => ?_)
  refine lv_aload_n hx hb d_cha7 rfl (lv_at hl 0 rfl) ?_
  refine vk_getf hx hb (hSp.1.1 i hi).2.2.1 hS hown (hts _ tS3.2.2.1) (fun _ h => h) d_cha8 ?_
  refine lv_iload_n hx hb d_cha11 rfl (lv_at hl 1 rfl) ?_
  have hrun2 := va_runS (p := p) (l := l) (e := e) (below := below) (meth := meth) (locs := []) (cells := 0) (slots := 0) (R := rmS 4) (H := s.heap) (Ts := Tg) (nL := 2) (own := "java/lang/String") (As := [.ref (adV i), .int j]) (rest := []) (g := F0 m 12 ls [.int j, .ref (adV i)]) ⟨hx, hb, hml, hown, hts⟩ (k_lch l adK adV hi hj) ⟨cbS (n := 2) hts tS1.2.2.2.2.2.1 tS2.2.1 tS4.2.2.1 (by decide +kernel) ⟨by decide, by decide⟩, hts _ tS5.2.2.2.2.2.1⟩ ⟨SpW_blind, fun U hU hW => ⟨rfl, hSp.on hU hW⟩⟩ rfl rfl hl.1 rfl (lv_room (Nat.le_of_ble_eq_true rfl)) d_cha12 ⟨Nat.le_refl _, Nat.le_refl _⟩
  refine va_callP hrun2 ?_
  exact W.zret hx hb hr c2 (fun t ht _ => ⟨rfl, ht⟩) (fun q h => absurd h List.not_mem_nil) d_cha15
theorem vv67 {i : Nat} (h : vv (.inr (.inr (67, i)))) : i < 2 := by
  have h : (67 = 0 ∧ i = 0) ∨ (67 < 67 ∧ i < cn 67) ∨ (67 = 67 ∧ i < 2) := h
  omega
theorem SW_SpW {ad : Nat × Nat → Nat} {s : State} {H : Heap} {locs : List Loc} (hW : SW ad s s.heap) (hS : va_S (AA ad) s.heap H locs) : ∃ adV : Nat → Nat, SpW (fun i => ad (67, i)) adV s H ∧ vk_S 2 lenS bytS (fun i => ad (67, i)) adV (AA ad) s s.heap := by
  obtain ⟨adV, h1, h2, h3, h4, h5⟩ := hW
  exact ⟨adV, ⟨(h1.kept hS.2.1).narrow (fun _ h => h.elim), (h3.kept hS.2.1).narrow (fun _ h => h.elim), (h4.kept hS.2.1).narrow (fun _ h => h.elim)⟩, h1⟩
theorem StrOk_m {l : Launch} {D : va_G} {ad : Nat × Nat → Nat} {cA : Nat → ClassId} (p : Program) (e : Env) (s : State) (m : MethodId) (args : Array Value) (below : List Frame) (meth : Method) (c : Code) (K : AV → AM → Prop) (r y0 : Nat) (C : Cx p s m args c (cd y0) D ad cA (mxl y0) (RN (ocl y0))) : StrOk p l e s m args below meth c D ad cA K r y0 := by
  refine ⟨fun pc i lv st σ ho hd hst kk => ?_, fun pc i j lv st σ ho hd hst hj kk => ?_, fun pc lv st σ ho hd kk => ?_⟩
  · intro hlv hsv H locs ls hP hS hv
    rw [ho] at C
    obtain ⟨hx, hb, hown, hml, hts, hK, hA, hW⟩ := C
    have hi := vv67 hsv.hd
    obtain ⟨adV, hSp, hvk⟩ := SW_SpW hW hS
    have hc := cat_len ad st
    have hrun := va_runV (p := p) (l := l) (e := e) (below := below) (meth := meth) (locs := locs) (cells := 0) (slots := 0) (R := rmK (r + 1)) (H := H) (Ts := Tg) (nL := mxl y0) (own := RX12) (b := ad (67, i)) (As := []) (rest := st.map (cv ad)) (g := F0 m pc ls ((.inr (.inr (67, i)) :: st).map (cv ad))) ⟨hx, hb, hml, hown, hts⟩ (k_len l (fun i => ad (67, i)) adV hi) ⟨cbS (n := 0) hts tS1.1 tS2.1 tS4.2.2.2.2.2.2.2.1 (by decide +kernel) ⟨by show 2 + 1 ≤ r + 1 + 8; omega, by show 8 + (1 + 11) + 30 * 2 ≤ 60 * (r + 1) + 500; omega⟩, hts _ tS5.1, hts _ tS6.1⟩ ⟨SpW_blind, vk_recv hvk hi hS, fun U hU hw => ⟨rfl, hSp.on hU hw⟩⟩ rfl rfl hv.1 rfl (lv_room (Nat.le_trans hc (by omega))) hd ⟨Nat.le_refl _, Nat.le_refl _⟩
    exact va_callP hrun (kk hlv (AllV.cons trivial hsv.tl) H locs ls hP hS hv)
  · intro hlv hsv H locs ls hP hS hv
    rw [ho] at C
    obtain ⟨hx, hb, hown, hml, hts, hK, hA, hW⟩ := C
    have hi := vv67 hsv.tl.hd
    obtain ⟨adV, hSp, hvk⟩ := SW_SpW hW hS
    have hc := cat_len ad st
    have hrun := va_runV (p := p) (l := l) (e := e) (below := below) (meth := meth) (locs := locs) (cells := 0) (slots := 0) (R := rmK (r + 1)) (H := H) (Ts := Tg) (nL := mxl y0) (own := RX12) (b := ad (67, i)) (As := [.int j]) (rest := st.map (cv ad)) (g := F0 m pc ls ((.inl j :: .inr (.inr (67, i)) :: st).map (cv ad))) ⟨hx, hb, hml, hown, hts⟩ (k_cha l (fun i => ad (67, i)) adV hi hj) ⟨cbS (n := 1) hts tS1.2.2.1 tS2.1 tS4.2.2.2.2.2.2.2.2 (by decide +kernel) ⟨by show 4 + 1 ≤ r + 1 + 8; omega, by show 8 + (2 + 11) + 30 * 4 ≤ 60 * (r + 1) + 500; omega⟩, hts _ tS5.2.2.1, hts _ tS6.2.2.1⟩ ⟨SpW_blind, vk_recv hvk hi hS, fun U hU hw => ⟨rfl, hSp.on hU hw⟩⟩ rfl rfl hv.1 rfl (lv_room (Nat.le_trans hc (by omega))) hd ⟨Nat.le_refl _, Nat.le_refl _⟩
    exact va_callP hrun (kk hlv (AllV.cons trivial hsv.tl.tl) H locs ls hP hS hv)
  · intro hlv hsv H locs ls hP hS hv
    rw [ho] at C
    obtain ⟨hx, hb, hown, hml, hts, hK, hA, adV, h1, h2, h3⟩ := C
    exact va_ldcS hx hb hown h2.2 hd (kk hlv (AllV.cons (Or.inr (Or.inr ⟨rfl, by omega⟩)) hsv) H locs ls hP hS hv)
theorem RuleAll_M {l : Launch} {D : va_G} {ad : Nat × Nat → Nat} {cA : Nat → ClassId} (hA : AdOk ad) : RuleAll (CALLm l D ad cA) := RuleAll_m hA (fun p e s m args below meth c K r y0 C => StrOk_m p e s m args below meth c K r y0 C)
