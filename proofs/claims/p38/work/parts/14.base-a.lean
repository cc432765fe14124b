set_option maxHeartbeats 4000000 in
set_option maxRecDepth 100000 in
theorem m_X0_count (l : Launch) (G : va_G) (cI : ClassId) (xb as ar am bn : Nat) (bs br mt : Nat → Int32) : Met l yX0_count wsX0_count ({ frames := 0, cells := 0, slots := 0, locals := 0 }) (bv_P [.ref xb] G cI (fun H => va_P G vwCl [(xb, .inr (0, [.ref as, .ref ar, .ref am, .int (nI bn)])), (as, .inl (cI, 10, .inl bs)), (ar, .inl (cI, 10, .inl br)), (am, .inl (cI, 1024, .inl mt))] H)) (vp_Si (fun r9 : Int32 => r9 = (nI bn))) 0 0 (fun _ => False) := by
  refine Met.ofW (cc := cX0_count) (maxL := 1) (ret := (some .int)) (by decide) rfl ?_
  intro p e s m args below meth c s₁ B hml hv
  obtain ⟨rfl, hP, hE⟩ := hv
  have hx := B.exec
  have hb := B.bytes
  have hr := B.returns
  have hts := atoms_spec (ws := wsX0_count) B.pre
  have hown : s.vm.findClass RX0 = some m.cls := findClass_of_methodNamed B.named
  have hlocks := B.notSynchronized
  have hK := hE.1
  have hw0 := hts (.fieldLink RX0 21 "BeliefReviser$Base" "count" "I") (List.mem_of_getElem? (i := 1) rfl)
  have hw1 : ∀ w ∈ u_ws RX0 TX0 4, w ∈ wsX0_count := by decide +kernel
  have hP : va_P G vwCl [(xb, .inr (0, [.ref as, .ref ar, .ref am, .int (nI bn)])), (as, .inl (cI, 10, .inl bs)), (ar, .inl (cI, 10, .inl br)), (am, .inl (cI, 1024, .inl mt))] s.heap := hP
  have hl := lv_entry ([.ref xb]) (n := 1) (Nat.le_of_ble_eq_true rfl)
  rw [lg_entry_eq]
  generalize (lg_sl ([.ref xb]) ++ List.replicate (1 - (lg_sl ([.ref xb])).length) Slot.unset).toArray = ls at hl ⊢
  have hl : lv_has ls 1 [(0, .ref xb)] := hl
  refine lv_aload_n (pc := 0) hx hb dX0_count_0 rfl (lv_at hl 0 rfl) ?_
  refine va_get (pc := 1) (D := G) (ci := 0) (v := .int (nI bn)) (C := RX0) (T := TX0) (N := 4) hx hb hts hw1 hown hK hP 0 rfl rfl 3 (by decide) hw0 (fun _ h9 => h9) rfl dX0_count_1 ?_
  exact W.iret (pc := 4) (v := (nI bn)) hx hb hr (fun T8 hT8 hW8 => ⟨(nI bn), rfl, rfl, hT8⟩) (fun _ h => nomatch h) dX0_count_4
set_option maxHeartbeats 4000000 in
set_option maxRecDepth 100000 in
theorem m_X0_countSets (l : Launch) (G : va_G) (cI : ClassId) (xb as ar am bn : Nat) (bs br mt : Nat → Int32) (hn : bn ≤ 10) : Met l yX0_countSets wsX0_countSets ({ frames := 0, cells := 0, slots := 0, locals := 0 }) (bv_P [.ref xb] G cI (fun H => va_P G vwCl [(xb, .inr (0, [.ref as, .ref ar, .ref am, .int (nI bn)])), (as, .inl (cI, 10, .inl bs)), (ar, .inl (cI, 10, .inl br)), (am, .inl (cI, 1024, .inl mt))] H)) (vp_Si (fun r9 : Int32 => r9 = (nI (2 ^ bn)))) 0 0 (fun _ => False) := by
  refine Met.ofW (cc := cX0_countSets) (maxL := 1) (ret := (some .int)) (by decide) rfl ?_
  intro p e s m args below meth c s₁ B hml hv
  obtain ⟨rfl, hP, hE⟩ := hv
  have hx := B.exec
  have hb := B.bytes
  have hr := B.returns
  have hts := atoms_spec (ws := wsX0_countSets) B.pre
  have hown : s.vm.findClass RX0 = some m.cls := findClass_of_methodNamed B.named
  have hlocks := B.notSynchronized
  have hK := hE.1
  have hw0 := hts (.fieldLink RX0 21 "BeliefReviser$Base" "count" "I") (List.mem_of_getElem? (i := 1) rfl)
  have hw1 : ∀ w ∈ u_ws RX0 TX0 4, w ∈ wsX0_countSets := by decide +kernel
  have hP : va_P G vwCl [(xb, .inr (0, [.ref as, .ref ar, .ref am, .int (nI bn)])), (as, .inl (cI, 10, .inl bs)), (ar, .inl (cI, 10, .inl br)), (am, .inl (cI, 1024, .inl mt))] s.heap := hP
  have hl := lv_entry ([.ref xb]) (n := 1) (Nat.le_of_ble_eq_true rfl)
  rw [lg_entry_eq]
  generalize (lg_sl ([.ref xb]) ++ List.replicate (1 - (lg_sl ([.ref xb])).length) Slot.unset).toArray = ls at hl ⊢
  have hl : lv_has ls 1 [(0, .ref xb)] := hl
  refine lv_iconst (pc := 0) (v := 1) hx hb dX0_countSets_0 (by decide) ?_
  refine lv_aload_n (pc := 1) hx hb dX0_countSets_1 rfl (lv_at hl 0 rfl) ?_
  refine va_get (pc := 2) (D := G) (ci := 0) (v := .int (nI bn)) (C := RX0) (T := TX0) (N := 4) hx hb hts hw1 hown hK hP 0 rfl rfl 3 (by decide) hw0 (fun _ h9 => h9) rfl dX0_countSets_2 ?_
  refine lv_ishl (pc := 5) hx hb dX0_countSets_5 ?_
  exact W.iret (pc := 6) (v := (1 <<< ((nI bn) &&& 31))) hx hb hr (fun T8 hT8 hW8 => ⟨(1 <<< ((nI bn) &&& 31)), rfl, (bv_shl hn), hT8⟩) (fun _ h => nomatch h) dX0_countSets_6
set_option maxHeartbeats 4000000 in
set_option maxRecDepth 100000 in
theorem m_X0_isFull (l : Launch) (G : va_G) (cI : ClassId) (xb as ar am bn : Nat) (bs br mt : Nat → Int32) (hn : bn ≤ 10) : Met l yX0_isFull wsX0_isFull ({ frames := 0, cells := 0, slots := 0, locals := 0 }) (bv_P [.ref xb] G cI (fun H => va_P G vwCl [(xb, .inr (0, [.ref as, .ref ar, .ref am, .int (nI bn)])), (as, .inl (cI, 10, .inl bs)), (ar, .inl (cI, 10, .inl br)), (am, .inl (cI, 1024, .inl mt))] H)) (vp_Si (fun r9 : Int32 => r9 = (bv_b (decide (10 ≤ bn))))) 0 0 (fun _ => False) := by
  refine Met.ofW (cc := cX0_isFull) (maxL := 1) (ret := (some .boolean)) (by decide) rfl ?_
  intro p e s m args below meth c s₁ B hml hv
  obtain ⟨rfl, hP, hE⟩ := hv
  have hx := B.exec
  have hb := B.bytes
  have hr := B.returns
  have hts := atoms_spec (ws := wsX0_isFull) B.pre
  have hown : s.vm.findClass RX0 = some m.cls := findClass_of_methodNamed B.named
  have hlocks := B.notSynchronized
  have hK := hE.1
  have hw0 := hts (.fieldLink RX0 21 "BeliefReviser$Base" "count" "I") (List.mem_of_getElem? (i := 1) rfl)
  have hw1 : ∀ w ∈ u_ws RX0 TX0 4, w ∈ wsX0_isFull := by decide +kernel
  have hP : va_P G vwCl [(xb, .inr (0, [.ref as, .ref ar, .ref am, .int (nI bn)])), (as, .inl (cI, 10, .inl bs)), (ar, .inl (cI, 10, .inl br)), (am, .inl (cI, 1024, .inl mt))] s.heap := hP
  have hl := lv_entry ([.ref xb]) (n := 1) (Nat.le_of_ble_eq_true rfl)
  rw [lg_entry_eq]
  generalize (lg_sl ([.ref xb]) ++ List.replicate (1 - (lg_sl ([.ref xb])).length) Slot.unset).toArray = ls at hl ⊢
  have hl : lv_has ls 1 [(0, .ref xb)] := hl
  refine lv_aload_n (pc := 0) hx hb dX0_isFull_0 rfl (lv_at hl 0 rfl) ?_
  refine va_get (pc := 1) (D := G) (ci := 0) (v := .int (nI bn)) (C := RX0) (T := TX0) (N := 4) hx hb hts hw1 hown hK hP 0 rfl rfl 3 (by decide) hw0 (fun _ h9 => h9) rfl dX0_isFull_1 ?_
  refine lv_bipush (pc := 4) (v := 10) hx hb dX0_isFull_4 (by decide) ?_
  refine lv_icmp_lt (pc := 6) (tgt := 13) hx hb dX0_isFull_6 (by decide) (fun c6_1 => ?_) (fun c6_1 => ?_)
  · have c1 := c6_1
    refine lv_iconst (pc := 13) (v := 0) hx hb dX0_isFull_13 (by decide) ?_
    exact W.zret (pc := 14) (v := 0) hx hb hr rfl (fun T8 hT8 hW8 => ⟨0, rfl, (by rw [decide_eq_false (fun h => absurd (show nI bn < nI 10 from c1) (nI_nlt h (by omega)))]; rfl), hT8⟩) (fun _ h => nomatch h) dX0_isFull_14
  · have c1 := c6_1
    refine lv_iconst (pc := 9) (v := 1) hx hb dX0_isFull_9 (by decide) ?_
    refine lv_goto (pc := 10) (tgt := 14) hx hb dX0_isFull_10 (by decide) ?_
    exact W.zret (pc := 14) (v := 1) hx hb hr rfl (fun T8 hT8 hW8 => ⟨1, rfl, (by rw [decide_eq_true (by have : bn = 10 := by { by_cases h : bn < 10; exact absurd (show nI bn < nI 10 from nI_lt h (by omega)) c1; omega }; omega)]; rfl), hT8⟩) (fun _ h => nomatch h) dX0_isFull_14
set_option maxHeartbeats 4000000 in
set_option maxRecDepth 100000 in
theorem m_X0_sentenceAt (l : Launch) (G : va_G) (cI : ClassId) (xb as ar am bn : Nat) (bs br mt : Nat → Int32) (k : Nat) (hk : k < 10) : Met l yX0_sentenceAt wsX0_sentenceAt ({ frames := 1, cells := 0, slots := 0, locals := 21 }) (bv_P [.ref xb, .int (nI k)] G cI (fun H => va_P G vwCl [(xb, .inr (0, [.ref as, .ref ar, .ref am, .int (nI bn)])), (as, .inl (cI, 10, .inl bs)), (ar, .inl (cI, 10, .inl br)), (am, .inl (cI, 1024, .inl mt))] H)) (vp_Si (fun r9 : Int32 => r9 = (bs k))) 0 0 (fun _ => False) := by
  refine Met.ofW (cc := cX0_sentenceAt) (maxL := 2) (ret := (some .int)) (by decide) rfl ?_
  intro p e s m args below meth c s₁ B hml hv
  obtain ⟨rfl, hP, hE⟩ := hv
  have hx := B.exec
  have hb := B.bytes
  have hr := B.returns
  have hts := atoms_spec (ws := wsX0_sentenceAt) B.pre
  have hown : s.vm.findClass RX0 = some m.cls := findClass_of_methodNamed B.named
  have hlocks := B.notSynchronized
  have hK := hE.1
  have hw0 := hts (.fieldLink RX0 9 "BeliefReviser$Base" "sentences" "[I") (List.mem_of_getElem? (i := 1) rfl)
  have hw1 : ∀ w ∈ u_ws RX0 TX0 4, w ∈ wsX0_sentenceAt := by decide +kernel
  have hw2 := hts (.static yX3_at) (List.mem_of_getElem? (i := 2) rfl)
  have hw3 := hts (.initialized RX3) (List.mem_of_getElem? (i := 3) rfl)
  have hw4 : va_Nw (.methodLinkNest RX0 30 yX3_at RX3) s := hE.2 (RX0, 30, yX3_at) (List.mem_of_getElem? (i := 3) rfl)
  have hP : va_P G vwCl [(xb, .inr (0, [.ref as, .ref ar, .ref am, .int (nI bn)])), (as, .inl (cI, 10, .inl bs)), (ar, .inl (cI, 10, .inl br)), (am, .inl (cI, 1024, .inl mt))] s.heap := hP
  have hl := lv_entry ([.ref xb, .int (nI k)]) (n := 2) (Nat.le_of_ble_eq_true rfl)
  rw [lg_entry_eq]
  generalize (lg_sl ([.ref xb, .int (nI k)]) ++ List.replicate (2 - (lg_sl ([.ref xb, .int (nI k)])).length) Slot.unset).toArray = ls at hl ⊢
  have hl : lv_has ls 2 [(0, .ref xb), (1, .int (nI k))] := hl
  refine lv_aload_n (pc := 0) hx hb dX0_sentenceAt_0 rfl (lv_at hl 0 rfl) ?_
  refine va_get (pc := 1) (D := G) (ci := 0) (v := .ref as) (C := RX0) (T := TX0) (N := 4) hx hb hts hw1 hown hK hP 0 rfl rfl 0 (by decide) hw0 (fun _ h9 => h9) rfl dX0_sentenceAt_1 ?_
  refine lv_iload_n (pc := 4) hx hb dX0_sentenceAt_4 rfl (lv_at hl 1 rfl) ?_
  have hPc := hP.sub (ws' := [(as, .inl (cI, 10, .inl bs))]) [1] rfl
  refine bv_cSi (pc := 5) (E' := (bs k)) (va_runSN (As := [.ref as, .int (nI k)]) (rest := []) ⟨hx, hb, hml, hown, hts⟩ (m_X3_at l G cI as 10 bs (nI k) (by decide)) ⟨va_cnB 2 hts gX0_sentenceAt_X3_at_n30 rfl rfl rfl hw4 hw3 (by decide +kernel) ⟨Nat.le_of_ble_eq_true rfl, Nat.le_of_ble_eq_true rfl⟩, hw2, trivial⟩ (bv_pS hE hPc) rfl rfl hl.1 rfl (lv_room (Nat.le_of_ble_eq_true rfl)) dX0_sentenceAt_5 ⟨Nat.le_of_ble_eq_true rfl, Nat.le_of_ble_eq_true rfl⟩) (bv_at_nI (by omega) (by decide)) ?_
  exact W.iret (pc := 8) (v := (bs k)) hx hb hr (fun T8 hT8 hW8 => ⟨(bs k), rfl, rfl, hT8⟩) (fun _ h => nomatch h) dX0_sentenceAt_8
set_option maxHeartbeats 4000000 in
set_option maxRecDepth 100000 in
theorem m_X0_rankAt (l : Launch) (G : va_G) (cI : ClassId) (xb as ar am bn : Nat) (bs br mt : Nat → Int32) (k : Nat) (hk : k < 10) : Met l yX0_rankAt wsX0_rankAt ({ frames := 1, cells := 0, slots := 0, locals := 21 }) (bv_P [.ref xb, .int (nI k)] G cI (fun H => va_P G vwCl [(xb, .inr (0, [.ref as, .ref ar, .ref am, .int (nI bn)])), (as, .inl (cI, 10, .inl bs)), (ar, .inl (cI, 10, .inl br)), (am, .inl (cI, 1024, .inl mt))] H)) (vp_Si (fun r9 : Int32 => r9 = (br k))) 0 0 (fun _ => False) := by
  refine Met.ofW (cc := cX0_rankAt) (maxL := 2) (ret := (some .int)) (by decide) rfl ?_
  intro p e s m args below meth c s₁ B hml hv
  obtain ⟨rfl, hP, hE⟩ := hv
  have hx := B.exec
  have hb := B.bytes
  have hr := B.returns
  have hts := atoms_spec (ws := wsX0_rankAt) B.pre
  have hown : s.vm.findClass RX0 = some m.cls := findClass_of_methodNamed B.named
  have hlocks := B.notSynchronized
  have hK := hE.1
  have hw0 := hts (.fieldLink RX0 15 "BeliefReviser$Base" "ranks" "[I") (List.mem_of_getElem? (i := 1) rfl)
  have hw1 : ∀ w ∈ u_ws RX0 TX0 4, w ∈ wsX0_rankAt := by decide +kernel
  have hw2 := hts (.static yX3_at) (List.mem_of_getElem? (i := 2) rfl)
  have hw3 := hts (.initialized RX3) (List.mem_of_getElem? (i := 3) rfl)
  have hw4 : va_Nw (.methodLinkNest RX0 30 yX3_at RX3) s := hE.2 (RX0, 30, yX3_at) (List.mem_of_getElem? (i := 3) rfl)
  have hP : va_P G vwCl [(xb, .inr (0, [.ref as, .ref ar, .ref am, .int (nI bn)])), (as, .inl (cI, 10, .inl bs)), (ar, .inl (cI, 10, .inl br)), (am, .inl (cI, 1024, .inl mt))] s.heap := hP
  have hl := lv_entry ([.ref xb, .int (nI k)]) (n := 2) (Nat.le_of_ble_eq_true rfl)
  rw [lg_entry_eq]
  generalize (lg_sl ([.ref xb, .int (nI k)]) ++ List.replicate (2 - (lg_sl ([.ref xb, .int (nI k)])).length) Slot.unset).toArray = ls at hl ⊢
  have hl : lv_has ls 2 [(0, .ref xb), (1, .int (nI k))] := hl
  refine lv_aload_n (pc := 0) hx hb dX0_rankAt_0 rfl (lv_at hl 0 rfl) ?_
  refine va_get (pc := 1) (D := G) (ci := 0) (v := .ref ar) (C := RX0) (T := TX0) (N := 4) hx hb hts hw1 hown hK hP 0 rfl rfl 1 (by decide) hw0 (fun _ h9 => h9) rfl dX0_rankAt_1 ?_
  refine lv_iload_n (pc := 4) hx hb dX0_rankAt_4 rfl (lv_at hl 1 rfl) ?_
  have hPc := hP.sub (ws' := [(ar, .inl (cI, 10, .inl br))]) [2] rfl
  refine bv_cSi (pc := 5) (E' := (br k)) (va_runSN (As := [.ref ar, .int (nI k)]) (rest := []) ⟨hx, hb, hml, hown, hts⟩ (m_X3_at l G cI ar 10 br (nI k) (by decide)) ⟨va_cnB 2 hts gX0_rankAt_X3_at_n30 rfl rfl rfl hw4 hw3 (by decide +kernel) ⟨Nat.le_of_ble_eq_true rfl, Nat.le_of_ble_eq_true rfl⟩, hw2, trivial⟩ (bv_pS hE hPc) rfl rfl hl.1 rfl (lv_room (Nat.le_of_ble_eq_true rfl)) dX0_rankAt_5 ⟨Nat.le_of_ble_eq_true rfl, Nat.le_of_ble_eq_true rfl⟩) (bv_at_nI (by omega) (by decide)) ?_
  exact W.iret (pc := 8) (v := (br k)) hx hb hr (fun T8 hT8 hW8 => ⟨(br k), rfl, rfl, hT8⟩) (fun _ h => nomatch h) dX0_rankAt_8
set_option maxHeartbeats 4000000 in
set_option maxRecDepth 100000 in
theorem m_X0_meetOf (l : Launch) (G : va_G) (cI : ClassId) (xb as ar am bn : Nat) (bs br mt : Nat → Int32) (t : Nat) (hn : bn ≤ 10) (hM : ∀ t, t < 2 ^ bn → mt t = bv_wi bs t bn) (ht : t < 2 ^ bn) : Met l yX0_meetOf wsX0_meetOf ({ frames := 1, cells := 0, slots := 0, locals := 21 }) (bv_P [.ref xb, .int (nI t)] G cI (fun H => va_P G vwCl [(xb, .inr (0, [.ref as, .ref ar, .ref am, .int (nI bn)])), (as, .inl (cI, 10, .inl bs)), (ar, .inl (cI, 10, .inl br)), (am, .inl (cI, 1024, .inl mt))] H)) (vp_Si (fun r9 : Int32 => r9 = (bv_wi bs t bn))) 0 0 (fun _ => False) := by
  refine Met.ofW (cc := cX0_meetOf) (maxL := 2) (ret := (some .int)) (by decide) rfl ?_
  intro p e s m args below meth c s₁ B hml hv
  obtain ⟨rfl, hP, hE⟩ := hv
  have hx := B.exec
  have hb := B.bytes
  have hr := B.returns
  have hts := atoms_spec (ws := wsX0_meetOf) B.pre
  have hown : s.vm.findClass RX0 = some m.cls := findClass_of_methodNamed B.named
  have hlocks := B.notSynchronized
  have hK := hE.1
  have hw0 := hts (.fieldLink RX0 18 "BeliefReviser$Base" "meets" "[I") (List.mem_of_getElem? (i := 1) rfl)
  have hw1 : ∀ w ∈ u_ws RX0 TX0 4, w ∈ wsX0_meetOf := by decide +kernel
  have hw2 := hts (.static yX3_at) (List.mem_of_getElem? (i := 2) rfl)
  have hw3 := hts (.initialized RX3) (List.mem_of_getElem? (i := 3) rfl)
  have hw4 : va_Nw (.methodLinkNest RX0 30 yX3_at RX3) s := hE.2 (RX0, 30, yX3_at) (List.mem_of_getElem? (i := 3) rfl)
  have hP : va_P G vwCl [(xb, .inr (0, [.ref as, .ref ar, .ref am, .int (nI bn)])), (as, .inl (cI, 10, .inl bs)), (ar, .inl (cI, 10, .inl br)), (am, .inl (cI, 1024, .inl mt))] s.heap := hP
  have hl := lv_entry ([.ref xb, .int (nI t)]) (n := 2) (Nat.le_of_ble_eq_true rfl)
  rw [lg_entry_eq]
  generalize (lg_sl ([.ref xb, .int (nI t)]) ++ List.replicate (2 - (lg_sl ([.ref xb, .int (nI t)])).length) Slot.unset).toArray = ls at hl ⊢
  have hl : lv_has ls 2 [(0, .ref xb), (1, .int (nI t))] := hl
  have hp10 := bv_p10 hn
  refine lv_aload_n (pc := 0) hx hb dX0_meetOf_0 rfl (lv_at hl 0 rfl) ?_
  refine va_get (pc := 1) (D := G) (ci := 0) (v := .ref am) (C := RX0) (T := TX0) (N := 4) hx hb hts hw1 hown hK hP 0 rfl rfl 2 (by decide) hw0 (fun _ h9 => h9) rfl dX0_meetOf_1 ?_
  refine lv_iload_n (pc := 4) hx hb dX0_meetOf_4 rfl (lv_at hl 1 rfl) ?_
  have hPc := hP.sub (ws' := [(am, .inl (cI, 1024, .inl mt))]) [3] rfl
  refine bv_cSi (pc := 5) (E' := (bv_wi bs t bn)) (va_runSN (As := [.ref am, .int (nI t)]) (rest := []) ⟨hx, hb, hml, hown, hts⟩ (m_X3_at l G cI am 1024 mt (nI t) (by decide)) ⟨va_cnB 2 hts gX0_meetOf_X3_at_n30 rfl rfl rfl hw4 hw3 (by decide +kernel) ⟨Nat.le_of_ble_eq_true rfl, Nat.le_of_ble_eq_true rfl⟩, hw2, trivial⟩ (bv_pS hE hPc) rfl rfl hl.1 rfl (lv_room (Nat.le_of_ble_eq_true rfl)) dX0_meetOf_5 ⟨Nat.le_of_ble_eq_true rfl, Nat.le_of_ble_eq_true rfl⟩) (by rw [bv_at_nI (by omega) (by decide), hM t ht]) ?_
  exact W.iret (pc := 8) (v := (bv_wi bs t bn)) hx hb hr (fun T8 hT8 hW8 => ⟨(bv_wi bs t bn), rfl, rfl, hT8⟩) (fun _ h => nomatch h) dX0_meetOf_8
set_option maxHeartbeats 4000000 in
set_option maxRecDepth 100000 in
theorem m_X0_reaches (l : Launch) (G : va_G) (cI : ClassId) (xb as ar am bn : Nat) (bs br mt : Nat → Int32) (t : Nat) (g : Int32) (hn : bn ≤ 10) (hM : ∀ t, t < 2 ^ bn → mt t = bv_wi bs t bn) (ht : t < 2 ^ bn) : Met l yX0_reaches wsX0_reaches ({ frames := 1, cells := 0, slots := 0, locals := 21 }) (bv_P [.ref xb, .int (nI t), .int g] G cI (fun H => va_P G vwCl [(xb, .inr (0, [.ref as, .ref ar, .ref am, .int (nI bn)])), (as, .inl (cI, 10, .inl bs)), (ar, .inl (cI, 10, .inl br)), (am, .inl (cI, 1024, .inl mt))] H)) (vp_Si (fun r9 : Int32 => r9 = (bv_b (bv_de bs bn t g)))) 0 0 (fun _ => False) := by
  refine Met.ofW (cc := cX0_reaches) (maxL := 3) (ret := (some .boolean)) (by decide) rfl ?_
  intro p e s m args below meth c s₁ B hml hv
  obtain ⟨rfl, hP, hE⟩ := hv
  have hx := B.exec
  have hb := B.bytes
  have hr := B.returns
  have hts := atoms_spec (ws := wsX0_reaches) B.pre
  have hown : s.vm.findClass RX0 = some m.cls := findClass_of_methodNamed B.named
  have hlocks := B.notSynchronized
  have hK := hE.1
  have hw0 := hts (.fieldLink RX0 18 "BeliefReviser$Base" "meets" "[I") (List.mem_of_getElem? (i := 1) rfl)
  have hw1 : ∀ w ∈ u_ws RX0 TX0 4, w ∈ wsX0_reaches := by decide +kernel
  have hw2 := hts (.static yX3_at) (List.mem_of_getElem? (i := 2) rfl)
  have hw3 := hts (.initialized RX3) (List.mem_of_getElem? (i := 3) rfl)
  have hw4 : va_Nw (.methodLinkNest RX0 30 yX3_at RX3) s := hE.2 (RX0, 30, yX3_at) (List.mem_of_getElem? (i := 3) rfl)
  have hw5 := hts (.static yX3_not) (List.mem_of_getElem? (i := 5) rfl)
  have hw6 : va_Nw (.methodLinkNest RX0 56 yX3_not RX3) s := hE.2 (RX0, 56, yX3_not) (List.mem_of_getElem? (i := 5) rfl)
  have hP : va_P G vwCl [(xb, .inr (0, [.ref as, .ref ar, .ref am, .int (nI bn)])), (as, .inl (cI, 10, .inl bs)), (ar, .inl (cI, 10, .inl br)), (am, .inl (cI, 1024, .inl mt))] s.heap := hP
  have hl := lv_entry ([.ref xb, .int (nI t), .int g]) (n := 3) (Nat.le_of_ble_eq_true rfl)
  rw [lg_entry_eq]
  generalize (lg_sl ([.ref xb, .int (nI t), .int g]) ++ List.replicate (3 - (lg_sl ([.ref xb, .int (nI t), .int g])).length) Slot.unset).toArray = ls at hl ⊢
  have hl : lv_has ls 3 [(0, .ref xb), (1, .int (nI t)), (2, .int g)] := hl
  have hp10 := bv_p10 hn
  refine lv_aload_n (pc := 0) hx hb dX0_reaches_0 rfl (lv_at hl 0 rfl) ?_
  refine va_get (pc := 1) (D := G) (ci := 0) (v := .ref am) (C := RX0) (T := TX0) (N := 4) hx hb hts hw1 hown hK hP 0 rfl rfl 2 (by decide) hw0 (fun _ h9 => h9) rfl dX0_reaches_1 ?_
  refine lv_iload_n (pc := 4) hx hb dX0_reaches_4 rfl (lv_at hl 1 rfl) ?_
  have hPc := hP.sub (ws' := [(am, .inl (cI, 1024, .inl mt))]) [3] rfl
  refine bv_cSi (pc := 5) (E' := (bv_wi bs t bn)) (va_runSN (As := [.ref am, .int (nI t)]) (rest := []) ⟨hx, hb, hml, hown, hts⟩ (m_X3_at l G cI am 1024 mt (nI t) (by decide)) ⟨va_cnB 2 hts gX0_reaches_X3_at_n30 rfl rfl rfl hw4 hw3 (by decide +kernel) ⟨Nat.le_of_ble_eq_true rfl, Nat.le_of_ble_eq_true rfl⟩, hw2, trivial⟩ (bv_pS hE hPc) rfl rfl hl.1 rfl (lv_room (Nat.le_of_ble_eq_true rfl)) dX0_reaches_5 ⟨Nat.le_of_ble_eq_true rfl, Nat.le_of_ble_eq_true rfl⟩) (by rw [bv_at_nI (by omega) (by decide), hM t ht]) ?_
  refine lv_iload_n (pc := 8) hx hb dX0_reaches_8 rfl (lv_at hl 2 rfl) ?_
  have hPc := hP.sub (ws' := []) [] rfl
  refine bv_cSi (pc := 9) (E' := (bv_not g)) (va_runSN (As := [.int g]) (rest := [.int (bv_wi bs t bn)]) ⟨hx, hb, hml, hown, hts⟩ (m_X3_not l G cI g ) ⟨va_cnB 1 hts gX0_reaches_X3_not_n56 rfl rfl rfl hw6 hw3 (by decide +kernel) ⟨Nat.le_of_ble_eq_true rfl, Nat.le_of_ble_eq_true rfl⟩, hw5, trivial⟩ (bv_pS hE hPc) rfl rfl hl.1 rfl (lv_room (Nat.le_of_ble_eq_true rfl)) dX0_reaches_9 ⟨Nat.le_of_ble_eq_true rfl, Nat.le_of_ble_eq_true rfl⟩) rfl ?_
  refine lv_iand (pc := 12) hx hb dX0_reaches_12 ?_
  refine lv_if_ne (pc := 13) (tgt := 20) hx hb dX0_reaches_13 (by decide) (fun c13_5 => ?_) (fun c13_5 => ?_)
  · have c1 := c13_5
    refine lv_iconst (pc := 20) (v := 0) hx hb dX0_reaches_20 (by decide) ?_
    exact W.zret (pc := 21) (v := 0) hx hb hr rfl (fun T8 hT8 hW8 => ⟨0, rfl, (by rw [bv_de, decide_eq_false c1]; rfl), hT8⟩) (fun _ h => nomatch h) dX0_reaches_21
  · have c1 := c13_5
    refine lv_iconst (pc := 16) (v := 1) hx hb dX0_reaches_16 (by decide) ?_
    refine lv_goto (pc := 17) (tgt := 21) hx hb dX0_reaches_17 (by decide) ?_
    exact W.zret (pc := 21) (v := 1) hx hb hr rfl (fun T8 hT8 hW8 => ⟨1, rfl, (by rw [bv_de, decide_eq_true c1]; rfl), hT8⟩) (fun _ h => nomatch h) dX0_reaches_21
theorem bv_allF {f : Nat → Bool} {n k : Nat} (hk : k < n) (h : f k = false) : bv_all f n = false := by
  induction n with
  | zero => exact absurd hk (Nat.not_lt_zero _)
  | succ n ih =>
    rw [bv_all]
    by_cases hkn : k = n
    · subst hkn; rw [h, Bool.and_false]
    · rw [ih (by omega), Bool.false_and]

set_option maxHeartbeats 4000000 in
set_option maxRecDepth 100000 in
theorem m_X0_isKernelFor (l : Launch) (G : va_G) (cI : ClassId) (xb as ar am bn : Nat) (bs br mt : Nat → Int32) (t : Nat) (g : Int32) (hn : bn ≤ 10) (hM : ∀ t, t < 2 ^ bn → mt t = bv_wi bs t bn) (ht : t < 2 ^ bn) : Met l yX0_isKernelFor wsX0_isKernelFor ({ frames := 2, cells := 0, slots := 0, locals := 43 }) (bv_P [.ref xb, .int (nI t), .int g] G cI (fun H => va_P G vwCl [(xb, .inr (0, [.ref as, .ref ar, .ref am, .int (nI bn)])), (as, .inl (cI, 10, .inl bs)), (ar, .inl (cI, 10, .inl br)), (am, .inl (cI, 1024, .inl mt))] H)) (vp_Si (fun r9 : Int32 => r9 = (bv_b (bv_ik bs bn g t)))) 0 0 (fun _ => False) := by
  refine Met.ofW (cc := cX0_isKernelFor) (maxL := 4) (ret := (some .boolean)) (by decide) rfl ?_
  intro p e s m args below meth c s₁ B hml hv
  obtain ⟨rfl, hP, hE⟩ := hv
  have hx := B.exec
  have hb := B.bytes
  have hr := B.returns
  have hts := atoms_spec (ws := wsX0_isKernelFor) B.pre
  have hown : s.vm.findClass RX0 = some m.cls := findClass_of_methodNamed B.named
  have hlocks := B.notSynchronized
  have hK := hE.1
  have hw0 := hts (.fieldLink RX0 21 "BeliefReviser$Base" "count" "I") (List.mem_of_getElem? (i := 1) rfl)
  have hw1 : ∀ w ∈ u_ws RX0 TX0 4, w ∈ wsX0_isKernelFor := by decide +kernel
  have hw2 := hts (.static yX3_has) (List.mem_of_getElem? (i := 14) rfl)
  have hw3 := hts (.initialized RX3) (List.mem_of_getElem? (i := 9) rfl)
  have hw4 : va_Nw (.methodLinkNest RX0 48 yX3_has RX3) s := hE.2 (RX0, 48, yX3_has) (List.mem_of_getElem? (i := 4) rfl)
  have hP : va_P G vwCl [(xb, .inr (0, [.ref as, .ref ar, .ref am, .int (nI bn)])), (as, .inl (cI, 10, .inl bs)), (ar, .inl (cI, 10, .inl br)), (am, .inl (cI, 1024, .inl mt))] s.heap := hP
  have hl := lv_entry ([.ref xb, .int (nI t), .int g]) (n := 4) (Nat.le_of_ble_eq_true rfl)
  rw [lg_entry_eq]
  generalize (lg_sl ([.ref xb, .int (nI t), .int g]) ++ List.replicate (4 - (lg_sl ([.ref xb, .int (nI t), .int g])).length) Slot.unset).toArray = ls at hl ⊢
  have hl : lv_has ls 4 [(0, .ref xb), (1, .int (nI t)), (2, .int g)] := hl
  have hp10 := bv_p10 hn
  refine lv_aload_n (pc := 0) hx hb dX0_isKernelFor_0 rfl (lv_at hl 0 rfl) ?_
  refine lv_iload_n (pc := 1) hx hb dX0_isKernelFor_1 rfl (lv_at hl 1 rfl) ?_
  refine lv_iload_n (pc := 2) hx hb dX0_isKernelFor_2 rfl (lv_at hl 2 rfl) ?_
  have hPc := hP.sub (ws' := [(xb, .inr (0, [.ref as, .ref ar, .ref am, .int (nI bn)])), (as, .inl (cI, 10, .inl bs)), (ar, .inl (cI, 10, .inl br)), (am, .inl (cI, 1024, .inl mt))]) [0, 1, 2, 3] rfl
  refine bv_cSi (pc := 3) (E' := (bv_b (bv_de bs bn t g))) (va_runV (As := [.int (nI t), .int g]) (rest := []) ⟨hx, hb, hml, hown, hts⟩ (m_X0_reaches l G cI xb as ar am bn bs br mt t g hn hM ht) (cwV 2 hts gX0_isKernelFor_X0_reaches rfl rfl rfl (by decide +kernel) ⟨Nat.le_of_ble_eq_true rfl, Nat.le_of_ble_eq_true rfl⟩) (bv_pV hE hPc (va_recv hK hP (ci := 0) (q0 := 0) rfl rfl)) rfl rfl hl.1 rfl (lv_room (Nat.le_of_ble_eq_true rfl)) dX0_isKernelFor_3 ⟨Nat.le_of_ble_eq_true rfl, Nat.le_of_ble_eq_true rfl⟩) rfl ?_
  refine lv_if_ne (pc := 6) (tgt := 11) hx hb dX0_isKernelFor_6 (by decide) (fun c6_3 => ?_) (fun c6_3 => ?_)
  · have h0 := bv_b1.mp c6_3
    refine lv_iconst (pc := 11) (v := 0) hx hb dX0_isKernelFor_11 (by decide) ?_
    refine lv_istore_n (pc := 12) (lv' := [(3, .int 0), (0, .ref xb), (1, .int (nI t)), (2, .int g)]) hx hb dX0_isKernelFor_12 rfl hl (by decide) rfl (fun ls hl => ?_)
    have loop_13 : ∀ (fu9 : Nat) (k : Nat), bn - k < fu9 → (k ≤ bn) → (bv_all (fun k => !(t.testBit k && bv_de bs bn (t ^^^ 2 ^ k) g)) k = true) → ∀ (ls : Array Slot), lv_has ls 4 [(3, .int (nI k)), (0, .ref xb), (1, .int (nI t)), (2, .int g)] → W p l e (headSpec wsX0_isKernelFor ({ frames := 2, cells := 0, slots := 0, locals := 43 })).room s m ([.ref xb, .int (nI t), .int g] : List Value).toArray below meth c s.heap [] 0 0 (MQ below (vp_Si (fun r9 : Int32 => r9 = (bv_b (bv_ik bs bn g t)))) ([.ref xb, .int (nI t), .int g] : List Value).toArray s 0 0 (fun _ => False)) (F0 m 13 ls []) := by
      intro fu9
      induction fu9 with
      | zero => intro k hfu; exact absurd hfu (Nat.not_lt_zero _)
      | succ fu9 ih =>
        intro k hfu hk hi ls hl
        refine lv_iload_n (pc := 13) hx hb dX0_isKernelFor_13 rfl (lv_at hl 0 rfl) ?_
        refine lv_aload_n (pc := 14) hx hb dX0_isKernelFor_14 rfl (lv_at hl 1 rfl) ?_
        refine va_get (pc := 15) (D := G) (ci := 0) (v := .int (nI bn)) (C := RX0) (T := TX0) (N := 4) hx hb hts hw1 hown hK hP 0 rfl rfl 3 (by decide) hw0 (fun _ h9 => h9) rfl dX0_isKernelFor_15 ?_
        refine lv_icmp_ge (pc := 18) (tgt := 50) hx hb dX0_isKernelFor_18 (by decide) (fun c18_4 => ?_) (fun c18_4 => ?_)
        · have hkn : bn = k := by
            by_cases h : k < bn
            · exact absurd c18_4 (nI_ge h (by omega))
            · omega
          subst hkn
          refine lv_iconst (pc := 50) (v := 1) hx hb dX0_isKernelFor_50 (by decide) ?_
          exact W.zret (pc := 51) (v := 1) hx hb hr rfl (fun T8 hT8 hW8 => ⟨1, rfl, (by rw [bv_ik, h0, Bool.true_and, hi]; rfl), hT8⟩) (fun _ h => nomatch h) dX0_isKernelFor_51
        · have hkn : k < bn := by
            by_cases h : k < bn
            · exact h
            · exact absurd (nI_le (by omega) (by omega)) c18_4
          refine lv_iload_n (pc := 21) hx hb dX0_isKernelFor_21 rfl (lv_at hl 2 rfl) ?_
          refine lv_iload_n (pc := 22) hx hb dX0_isKernelFor_22 rfl (lv_at hl 0 rfl) ?_
          have hPc := hP.sub (ws' := []) [] rfl
          refine bv_cSi (pc := 23) (E' := (bv_b (t.testBit k))) (va_runSN (As := [.int (nI t), .int (nI k)]) (rest := []) ⟨hx, hb, hml, hown, hts⟩ (m_X3_has l G cI (nI t) (nI k) ) ⟨va_cnB 2 hts gX0_isKernelFor_X3_has_n48 rfl rfl rfl hw4 hw3 (by decide +kernel) ⟨Nat.le_of_ble_eq_true rfl, Nat.le_of_ble_eq_true rfl⟩, hw2, trivial⟩ (bv_pS hE hPc) rfl rfl hl.1 rfl (lv_room (Nat.le_of_ble_eq_true rfl)) dX0_isKernelFor_23 ⟨Nat.le_of_ble_eq_true rfl, Nat.le_of_ble_eq_true rfl⟩) (by rw [bv_has_nI (by omega) (by omega)]) ?_
          refine lv_if_eq (pc := 26) (tgt := 44) hx hb dX0_isKernelFor_26 (by decide) (fun c26_7 => ?_) (fun c26_7 => ?_)
          · have h2 := bv_b0.mp c26_7
            refine lv_iinc (pc := 44) (v := (nI (k + 1))) (lv' := [(3, .int (nI (k + 1))), (0, .ref xb), (1, .int (nI t)), (2, .int g)]) hx hb dX0_isKernelFor_44 hl (k := 0) rfl (nI_1 k) (by decide) rfl (fun ls hl => ?_)
            refine lv_goto (pc := 47) (tgt := 13) hx hb dX0_isKernelFor_47 (by decide) ?_
            exact ih (k + 1) (by omega) (by omega) (by rw [bv_all, hi]; simp_all) ls (lv_sub hl [0, 1, 2, 3] rfl)
          · have h2 := bv_b1.mp c26_7
            refine lv_aload_n (pc := 29) hx hb dX0_isKernelFor_29 rfl (lv_at hl 1 rfl) ?_
            refine lv_iload_n (pc := 30) hx hb dX0_isKernelFor_30 rfl (lv_at hl 2 rfl) ?_
            refine lv_iconst (pc := 31) (v := 1) hx hb dX0_isKernelFor_31 (by decide) ?_
            refine lv_iload_n (pc := 32) hx hb dX0_isKernelFor_32 rfl (lv_at hl 0 rfl) ?_
            refine lv_ishl (pc := 33) hx hb dX0_isKernelFor_33 ?_
            refine lv_ixor (pc := 34) hx hb dX0_isKernelFor_34 ?_
            refine lv_iload_n (pc := 35) hx hb dX0_isKernelFor_35 rfl (lv_at hl 3 rfl) ?_
            rw [show (nI t ^^^ ((1 : Int32) <<< (nI k &&& 31))) = nI (t ^^^ 2 ^ k) from bv_xbit (by omega)]
            have hPc := hP.sub (ws' := [(xb, .inr (0, [.ref as, .ref ar, .ref am, .int (nI bn)])), (as, .inl (cI, 10, .inl bs)), (ar, .inl (cI, 10, .inl br)), (am, .inl (cI, 1024, .inl mt))]) [0, 1, 2, 3] rfl
            refine bv_cSi (pc := 36) (E' := (bv_b (bv_de bs bn (t ^^^ 2 ^ k) g))) (va_runV (As := [.int (nI (t ^^^ 2 ^ k)), .int g]) (rest := []) ⟨hx, hb, hml, hown, hts⟩ (m_X0_reaches l G cI xb as ar am bn bs br mt (t ^^^ 2 ^ k) g hn hM (bv_xlt ht (by omega))) (cwV 2 hts gX0_isKernelFor_X0_reaches rfl rfl rfl (by decide +kernel) ⟨Nat.le_of_ble_eq_true rfl, Nat.le_of_ble_eq_true rfl⟩) (bv_pV hE hPc (va_recv hK hP (ci := 0) (q0 := 0) rfl rfl)) rfl rfl hl.1 rfl (lv_room (Nat.le_of_ble_eq_true rfl)) dX0_isKernelFor_36 ⟨Nat.le_of_ble_eq_true rfl, Nat.le_of_ble_eq_true rfl⟩) rfl ?_
            refine lv_if_eq (pc := 39) (tgt := 44) hx hb dX0_isKernelFor_39 (by decide) (fun c39_10 => ?_) (fun c39_10 => ?_)
            · have h3 := bv_b0.mp c39_10
              refine lv_iinc (pc := 44) (v := (nI (k + 1))) (lv' := [(3, .int (nI (k + 1))), (0, .ref xb), (1, .int (nI t)), (2, .int g)]) hx hb dX0_isKernelFor_44 hl (k := 0) rfl (nI_1 k) (by decide) rfl (fun ls hl => ?_)
              refine lv_goto (pc := 47) (tgt := 13) hx hb dX0_isKernelFor_47 (by decide) ?_
              exact ih (k + 1) (by omega) (by omega) (by rw [bv_all, hi]; simp_all) ls (lv_sub hl [0, 1, 2, 3] rfl)
            · have h3 := bv_b1.mp c39_10
              refine lv_iconst (pc := 42) (v := 0) hx hb dX0_isKernelFor_42 (by decide) ?_
              exact W.zret (pc := 43) (v := 0) hx hb hr rfl (fun T8 hT8 hW8 => ⟨0, rfl, (by rw [bv_ik, bv_allF hkn (by simp only [h2, h3]; rfl), Bool.and_false]; rfl), hT8⟩) (fun _ h => nomatch h) dX0_isKernelFor_43
    exact loop_13 (bn - 0 + 1) 0 (Nat.lt_succ_self _) (by omega) rfl ls (lv_sub hl [0, 1, 2, 3] rfl)
  · have h0 := bv_b0.mp c6_3
    refine lv_iconst (pc := 9) (v := 0) hx hb dX0_isKernelFor_9 (by decide) ?_
    exact W.zret (pc := 10) (v := 0) hx hb hr rfl (fun T8 hT8 hW8 => ⟨0, rfl, (by rw [bv_ik, h0, Bool.false_and]; rfl), hT8⟩) (fun _ h => nomatch h) dX0_isKernelFor_10
set_option maxHeartbeats 4000000 in
set_option maxRecDepth 100000 in
theorem m_X0_isRemainderFor (l : Launch) (G : va_G) (cI : ClassId) (xb as ar am bn : Nat) (bs br mt : Nat → Int32) (t : Nat) (g : Int32) (hn : bn ≤ 10) (hM : ∀ t, t < 2 ^ bn → mt t = bv_wi bs t bn) (ht : t < 2 ^ bn) : Met l yX0_isRemainderFor wsX0_isRemainderFor ({ frames := 2, cells := 0, slots := 0, locals := 43 }) (bv_P [.ref xb, .int (nI t), .int g] G cI (fun H => va_P G vwCl [(xb, .inr (0, [.ref as, .ref ar, .ref am, .int (nI bn)])), (as, .inl (cI, 10, .inl bs)), (ar, .inl (cI, 10, .inl br)), (am, .inl (cI, 1024, .inl mt))] H)) (vp_Si (fun r9 : Int32 => r9 = (bv_b (bv_ir bs bn g t)))) 0 0 (fun _ => False) := by
  refine Met.ofW (cc := cX0_isRemainderFor) (maxL := 4) (ret := (some .boolean)) (by decide) rfl ?_
  intro p e s m args below meth c s₁ B hml hv
  obtain ⟨rfl, hP, hE⟩ := hv
  have hx := B.exec
  have hb := B.bytes
  have hr := B.returns
  have hts := atoms_spec (ws := wsX0_isRemainderFor) B.pre
  have hown : s.vm.findClass RX0 = some m.cls := findClass_of_methodNamed B.named
  have hlocks := B.notSynchronized
  have hK := hE.1
  have hw0 := hts (.fieldLink RX0 21 "BeliefReviser$Base" "count" "I") (List.mem_of_getElem? (i := 1) rfl)
  have hw1 : ∀ w ∈ u_ws RX0 TX0 4, w ∈ wsX0_isRemainderFor := by decide +kernel
  have hw2 := hts (.static yX3_has) (List.mem_of_getElem? (i := 14) rfl)
  have hw3 := hts (.initialized RX3) (List.mem_of_getElem? (i := 9) rfl)
  have hw4 : va_Nw (.methodLinkNest RX0 48 yX3_has RX3) s := hE.2 (RX0, 48, yX3_has) (List.mem_of_getElem? (i := 4) rfl)
  have hP : va_P G vwCl [(xb, .inr (0, [.ref as, .ref ar, .ref am, .int (nI bn)])), (as, .inl (cI, 10, .inl bs)), (ar, .inl (cI, 10, .inl br)), (am, .inl (cI, 1024, .inl mt))] s.heap := hP
  have hl := lv_entry ([.ref xb, .int (nI t), .int g]) (n := 4) (Nat.le_of_ble_eq_true rfl)
  rw [lg_entry_eq]
  generalize (lg_sl ([.ref xb, .int (nI t), .int g]) ++ List.replicate (4 - (lg_sl ([.ref xb, .int (nI t), .int g])).length) Slot.unset).toArray = ls at hl ⊢
  have hl : lv_has ls 4 [(0, .ref xb), (1, .int (nI t)), (2, .int g)] := hl
  have hp10 := bv_p10 hn
  refine lv_aload_n (pc := 0) hx hb dX0_isRemainderFor_0 rfl (lv_at hl 0 rfl) ?_
  refine lv_iload_n (pc := 1) hx hb dX0_isRemainderFor_1 rfl (lv_at hl 1 rfl) ?_
  refine lv_iload_n (pc := 2) hx hb dX0_isRemainderFor_2 rfl (lv_at hl 2 rfl) ?_
  have hPc := hP.sub (ws' := [(xb, .inr (0, [.ref as, .ref ar, .ref am, .int (nI bn)])), (as, .inl (cI, 10, .inl bs)), (ar, .inl (cI, 10, .inl br)), (am, .inl (cI, 1024, .inl mt))]) [0, 1, 2, 3] rfl
  refine bv_cSi (pc := 3) (E' := (bv_b (bv_de bs bn t g))) (va_runV (As := [.int (nI t), .int g]) (rest := []) ⟨hx, hb, hml, hown, hts⟩ (m_X0_reaches l G cI xb as ar am bn bs br mt t g hn hM ht) (cwV 2 hts gX0_isRemainderFor_X0_reaches rfl rfl rfl (by decide +kernel) ⟨Nat.le_of_ble_eq_true rfl, Nat.le_of_ble_eq_true rfl⟩) (bv_pV hE hPc (va_recv hK hP (ci := 0) (q0 := 0) rfl rfl)) rfl rfl hl.1 rfl (lv_room (Nat.le_of_ble_eq_true rfl)) dX0_isRemainderFor_3 ⟨Nat.le_of_ble_eq_true rfl, Nat.le_of_ble_eq_true rfl⟩) rfl ?_
  refine lv_if_eq (pc := 6) (tgt := 11) hx hb dX0_isRemainderFor_6 (by decide) (fun c6_3 => ?_) (fun c6_3 => ?_)
  · have h0 := bv_b0.mp c6_3
    refine lv_iconst (pc := 11) (v := 0) hx hb dX0_isRemainderFor_11 (by decide) ?_
    refine lv_istore_n (pc := 12) (lv' := [(3, .int 0), (0, .ref xb), (1, .int (nI t)), (2, .int g)]) hx hb dX0_isRemainderFor_12 rfl hl (by decide) rfl (fun ls hl => ?_)
    have loop_13 : ∀ (fu9 : Nat) (k : Nat), bn - k < fu9 → (k ≤ bn) → (bv_all (fun k => t.testBit k || bv_de bs bn (t ||| 2 ^ k) g) k = true) → ∀ (ls : Array Slot), lv_has ls 4 [(3, .int (nI k)), (0, .ref xb), (1, .int (nI t)), (2, .int g)] → W p l e (headSpec wsX0_isRemainderFor ({ frames := 2, cells := 0, slots := 0, locals := 43 })).room s m ([.ref xb, .int (nI t), .int g] : List Value).toArray below meth c s.heap [] 0 0 (MQ below (vp_Si (fun r9 : Int32 => r9 = (bv_b (bv_ir bs bn g t)))) ([.ref xb, .int (nI t), .int g] : List Value).toArray s 0 0 (fun _ => False)) (F0 m 13 ls []) := by
      intro fu9
      induction fu9 with
      | zero => intro k hfu; exact absurd hfu (Nat.not_lt_zero _)
      | succ fu9 ih =>
        intro k hfu hk hi ls hl
        refine lv_iload_n (pc := 13) hx hb dX0_isRemainderFor_13 rfl (lv_at hl 0 rfl) ?_
        refine lv_aload_n (pc := 14) hx hb dX0_isRemainderFor_14 rfl (lv_at hl 1 rfl) ?_
        refine va_get (pc := 15) (D := G) (ci := 0) (v := .int (nI bn)) (C := RX0) (T := TX0) (N := 4) hx hb hts hw1 hown hK hP 0 rfl rfl 3 (by decide) hw0 (fun _ h9 => h9) rfl dX0_isRemainderFor_15 ?_
        refine lv_icmp_ge (pc := 18) (tgt := 50) hx hb dX0_isRemainderFor_18 (by decide) (fun c18_4 => ?_) (fun c18_4 => ?_)
        · have hkn : bn = k := by
            by_cases h : k < bn
            · exact absurd c18_4 (nI_ge h (by omega))
            · omega
          subst hkn
          refine lv_iconst (pc := 50) (v := 1) hx hb dX0_isRemainderFor_50 (by decide) ?_
          exact W.zret (pc := 51) (v := 1) hx hb hr rfl (fun T8 hT8 hW8 => ⟨1, rfl, (by rw [bv_ir, h0, Bool.not_false, Bool.true_and, hi]; rfl), hT8⟩) (fun _ h => nomatch h) dX0_isRemainderFor_51
        · have hkn : k < bn := by
            by_cases h : k < bn
            · exact h
            · exact absurd (nI_le (by omega) (by omega)) c18_4
          refine lv_iload_n (pc := 21) hx hb dX0_isRemainderFor_21 rfl (lv_at hl 2 rfl) ?_
          refine lv_iload_n (pc := 22) hx hb dX0_isRemainderFor_22 rfl (lv_at hl 0 rfl) ?_
          have hPc := hP.sub (ws' := []) [] rfl
          refine bv_cSi (pc := 23) (E' := (bv_b (t.testBit k))) (va_runSN (As := [.int (nI t), .int (nI k)]) (rest := []) ⟨hx, hb, hml, hown, hts⟩ (m_X3_has l G cI (nI t) (nI k) ) ⟨va_cnB 2 hts gX0_isRemainderFor_X3_has_n48 rfl rfl rfl hw4 hw3 (by decide +kernel) ⟨Nat.le_of_ble_eq_true rfl, Nat.le_of_ble_eq_true rfl⟩, hw2, trivial⟩ (bv_pS hE hPc) rfl rfl hl.1 rfl (lv_room (Nat.le_of_ble_eq_true rfl)) dX0_isRemainderFor_23 ⟨Nat.le_of_ble_eq_true rfl, Nat.le_of_ble_eq_true rfl⟩) (by rw [bv_has_nI (by omega) (by omega)]) ?_
          refine lv_if_ne (pc := 26) (tgt := 44) hx hb dX0_isRemainderFor_26 (by decide) (fun c26_7 => ?_) (fun c26_7 => ?_)
          · have h2 := bv_b1.mp c26_7
            refine lv_iinc (pc := 44) (v := (nI (k + 1))) (lv' := [(3, .int (nI (k + 1))), (0, .ref xb), (1, .int (nI t)), (2, .int g)]) hx hb dX0_isRemainderFor_44 hl (k := 0) rfl (nI_1 k) (by decide) rfl (fun ls hl => ?_)
            refine lv_goto (pc := 47) (tgt := 13) hx hb dX0_isRemainderFor_47 (by decide) ?_
            exact ih (k + 1) (by omega) (by omega) (by rw [bv_all, hi]; simp_all) ls (lv_sub hl [0, 1, 2, 3] rfl)
          · have h2 := bv_b0.mp c26_7
            refine lv_aload_n (pc := 29) hx hb dX0_isRemainderFor_29 rfl (lv_at hl 1 rfl) ?_
            refine lv_iload_n (pc := 30) hx hb dX0_isRemainderFor_30 rfl (lv_at hl 2 rfl) ?_
            refine lv_iconst (pc := 31) (v := 1) hx hb dX0_isRemainderFor_31 (by decide) ?_
            refine lv_iload_n (pc := 32) hx hb dX0_isRemainderFor_32 rfl (lv_at hl 0 rfl) ?_
            refine lv_ishl (pc := 33) hx hb dX0_isRemainderFor_33 ?_
            refine lv_ior (pc := 34) hx hb dX0_isRemainderFor_34 ?_
            refine lv_iload_n (pc := 35) hx hb dX0_isRemainderFor_35 rfl (lv_at hl 3 rfl) ?_
            rw [show (nI t ||| ((1 : Int32) <<< (nI k &&& 31))) = nI (t ||| 2 ^ k) from bv_obit (by omega)]
            have hPc := hP.sub (ws' := [(xb, .inr (0, [.ref as, .ref ar, .ref am, .int (nI bn)])), (as, .inl (cI, 10, .inl bs)), (ar, .inl (cI, 10, .inl br)), (am, .inl (cI, 1024, .inl mt))]) [0, 1, 2, 3] rfl
            refine bv_cSi (pc := 36) (E' := (bv_b (bv_de bs bn (t ||| 2 ^ k) g))) (va_runV (As := [.int (nI (t ||| 2 ^ k)), .int g]) (rest := []) ⟨hx, hb, hml, hown, hts⟩ (m_X0_reaches l G cI xb as ar am bn bs br mt (t ||| 2 ^ k) g hn hM (bv_olt ht (by omega))) (cwV 2 hts gX0_isRemainderFor_X0_reaches rfl rfl rfl (by decide +kernel) ⟨Nat.le_of_ble_eq_true rfl, Nat.le_of_ble_eq_true rfl⟩) (bv_pV hE hPc (va_recv hK hP (ci := 0) (q0 := 0) rfl rfl)) rfl rfl hl.1 rfl (lv_room (Nat.le_of_ble_eq_true rfl)) dX0_isRemainderFor_36 ⟨Nat.le_of_ble_eq_true rfl, Nat.le_of_ble_eq_true rfl⟩) rfl ?_
            refine lv_if_ne (pc := 39) (tgt := 44) hx hb dX0_isRemainderFor_39 (by decide) (fun c39_10 => ?_) (fun c39_10 => ?_)
            · have h3 := bv_b1.mp c39_10
              refine lv_iinc (pc := 44) (v := (nI (k + 1))) (lv' := [(3, .int (nI (k + 1))), (0, .ref xb), (1, .int (nI t)), (2, .int g)]) hx hb dX0_isRemainderFor_44 hl (k := 0) rfl (nI_1 k) (by decide) rfl (fun ls hl => ?_)
              refine lv_goto (pc := 47) (tgt := 13) hx hb dX0_isRemainderFor_47 (by decide) ?_
              exact ih (k + 1) (by omega) (by omega) (by rw [bv_all, hi]; simp_all) ls (lv_sub hl [0, 1, 2, 3] rfl)
            · have h3 := bv_b0.mp c39_10
              refine lv_iconst (pc := 42) (v := 0) hx hb dX0_isRemainderFor_42 (by decide) ?_
              exact W.zret (pc := 43) (v := 0) hx hb hr rfl (fun T8 hT8 hW8 => ⟨0, rfl, (by rw [bv_ir, bv_allF hkn (by simp only [h2, h3]; rfl), Bool.and_false]; rfl), hT8⟩) (fun _ h => nomatch h) dX0_isRemainderFor_43
    exact loop_13 (bn - 0 + 1) 0 (Nat.lt_succ_self _) (by omega) rfl ls (lv_sub hl [0, 1, 2, 3] rfl)
  · have h0 := bv_b1.mp c6_3
    refine lv_iconst (pc := 9) (v := 0) hx hb dX0_isRemainderFor_9 (by decide) ?_
    exact W.zret (pc := 10) (v := 0) hx hb hr rfl (fun T8 hT8 hW8 => ⟨0, rfl, (by rw [bv_ir, h0, Bool.not_true, Bool.false_and]; rfl), hT8⟩) (fun _ h => nomatch h) dX0_isRemainderFor_10
