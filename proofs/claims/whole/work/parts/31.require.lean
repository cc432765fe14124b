/-! Ranges of ints. -/
theorem bv_lt4 {i : Int32} : i < 4 ↔ i ≤ 3 := by
  rw [Int32.lt_iff_toInt_lt, Int32.le_iff_toInt_le, show (4 : Int32).toInt = 4 from by decide, show (3 : Int32).toInt = 3 from by decide]
  omega
theorem bv_lt16 {i : Int32} : i < 16 ↔ i ≤ 15 := by
  rw [Int32.lt_iff_toInt_lt, Int32.le_iff_toInt_le, show (16 : Int32).toInt = 16 from by decide, show (15 : Int32).toInt = 15 from by decide]
  omega

theorem bv_fnd_lt {f : Nat → Bool} {ix : Int32} {N x : Nat} (h : bv_fnd f ix N = some x) : x < N := by
  induction N with
  | zero => cases h
  | succ N ih =>
    rw [bv_fnd] at h
    cases h0 : bv_fnd f ix N with
    | some y => rw [h0] at h; cases h; exact Nat.lt_succ_of_lt (ih h0)
    | none =>
      rw [h0] at h
      by_cases hc : f N = true ∧ nI (bv_cnt f N) = ix
      · simp only [if_pos hc] at h; cases h; exact Nat.lt_succ_self _
      · simp only [if_neg hc] at h; cases h
theorem bv_oI_ge {f : Nat → Bool} {ix : Int32} {bn : Nat} (hn : bn ≤ 10) (h : bv_fnd f ix (2 ^ bn) ≠ none) : 0 ≤ bv_oI (bv_fnd f ix (2 ^ bn)) := by
  cases h0 : bv_fnd f ix (2 ^ bn) with
  | none => exact absurd h0 h
  | some y =>
    have h1 := bv_fnd_lt h0
    have h2 := bv_p10 hn
    exact nI_pos' (by omega)

theorem bv_sub0_X3_requireAtom : ∀ w ∈ (vx_atS RX3 161 "java/lang/IndexOutOfBoundsException" bv_nms).filter goodWord, w ∈ wsX3_requireAtom := by decide +kernel
set_option maxHeartbeats 4000000 in
set_option maxRecDepth 100000 in
theorem m_X3_requireAtom (l : Launch) (hst : l.stackTraces = false) (G : va_G) (cI : ClassId) (H0 : Heap) (i : Int32) : vx_Met l yX3_requireAtom wsX3_requireAtom ({ frames := 6, cells := 1, slots := 6, locals := 90 }) (bv_PX [.int i] G cI (fun H => H = H0 ∧ va_P G vwCl [] H)) (va_Qv (fun _ : Unit => (0 ≤ i ∧ i ≤ 3)) (fun _ (T9 : State) => T9.heap = H0) (fun _ => False)) (vx_X (fun _ : Unit => True) (fun (X9 : String) _ _ => X9 = "java/lang/IndexOutOfBoundsException" ∧ ¬ (0 ≤ i ∧ i ≤ 3)) (fun _ => False)) 1 6 (fun _ => False) := by
  refine vx_ofW (cc := cX3_requireAtom) (maxL := 1) (ret := none) (by decide) rfl ?_
  intro p e s m args below meth c s₁ B hml htab hv
  obtain ⟨rfl, ⟨hH0, hP⟩, hE, hX⟩ := hv
  have hx := B.exec
  have hb := B.bytes
  have hr := B.returns
  have hts := atoms_spec (ws := wsX3_requireAtom) B.pre
  have hown : s.vm.findClass RX3 = some m.cls := findClass_of_methodNamed B.named
  have hlocks := B.notSynchronized
  have hK := hE.1
  have hw0 := hts (.classLink RX3 157 "java/lang/IndexOutOfBoundsException") (List.mem_of_getElem? (i := 1) rfl)
  have hw1 := hts (.initialized "java/lang/IndexOutOfBoundsException") (List.mem_of_getElem? (i := 2) rfl)
  have hw2 := hts (.fieldLink RX3 37 "BeliefReviser" "ATOM_WORLDS" "[I") (List.mem_of_getElem? (i := 3) rfl)
  subst hH0
  have hP : va_P G vwCl [] s.heap := hP
  have hl := lv_entry ([.int i]) (n := 1) (Nat.le_of_ble_eq_true rfl)
  rw [lg_entry_eq]
  generalize (lg_sl ([.int i]) ++ List.replicate (1 - (lg_sl ([.int i])).length) Slot.unset).toArray = ls at hl ⊢
  have hl : lv_has ls 1 [(0, .int i)] := hl
  refine lv_iload_n (pc := 0) hx hb dX3_requireAtom_0 rfl (lv_at hl 0 rfl) ?_
  refine lv_if_lt (pc := 1) (tgt := 12) hx hb dX3_requireAtom_1 (by decide) (fun c1_1 => ?_) (fun c1_1 => ?_)
  · have h1 := c1_1
    exact bv_throw hx hb hst hX hown hw0 hw1 (hX.1 (200, "the atom is not 0 to 3") (List.mem_of_getElem? (i := 7) rfl)) (hX.2.1 (161, "java/lang/IndexOutOfBoundsException") (List.mem_of_getElem? (i := 0) rfl)) (fun w hw => hts w (bv_sub0_X3_requireAtom w hw)) (by decide +kernel) (by decide +kernel) (by decide +kernel) (hl.1.trans hml.symm) dX3_requireAtom_12 dX3_requireAtom_15 dX3_requireAtom_16 dX3_requireAtom_18 dX3_requireAtom_21 htab (by decide) (Nat.le_of_ble_eq_true rfl) (Nat.le_of_ble_eq_true rfl) (Nat.le_of_ble_eq_true rfl) hlocks (⟨rfl, fun h => absurd (Int32.not_lt.mpr h.1) (not_not_intro h1)⟩) (by decide) (by decide)
  · have h1 := c1_1
    refine lv_iload_n (pc := 4) hx hb dX3_requireAtom_4 rfl (lv_at hl 0 rfl) ?_
    obtain ⟨qA, hZA, hTA⟩ := hX.2.2.2.2
    refine va_gets (A := fun _ => False) hx hb hZA va_S.rf hown hw2 (fun _ h9 => h9) dX3_requireAtom_5 ?_
    refine va_tlen (pc := 8) (v := (nI 4)) hx hb hTA va_S.rf rfl dX3_requireAtom_8 ?_
    refine lv_icmp_lt (pc := 9) (tgt := 22) hx hb dX3_requireAtom_9 (by decide) (fun c9_2 => ?_) (fun c9_2 => ?_)
    · have h2 := c9_2
      refine vx_ret ?_
      refine W.widen (k := 1) (n := 6) (by decide) (by decide) ?_
      exact W.vret (pc := 22) hx hb hr (fun T8 hT8 hW8 => ⟨⟨(), rfl, ⟨Int32.not_lt.mp h1, bv_lt4.mp h2⟩, hT8⟩, (va_S.rf (A := fun _ => False)).F hT8⟩) (fun _ h => nomatch h) dX3_requireAtom_22
    · have h2 := c9_2
      exact bv_throw hx hb hst hX hown hw0 hw1 (hX.1 (200, "the atom is not 0 to 3") (List.mem_of_getElem? (i := 7) rfl)) (hX.2.1 (161, "java/lang/IndexOutOfBoundsException") (List.mem_of_getElem? (i := 0) rfl)) (fun w hw => hts w (bv_sub0_X3_requireAtom w hw)) (by decide +kernel) (by decide +kernel) (by decide +kernel) (hl.1.trans hml.symm) dX3_requireAtom_12 dX3_requireAtom_15 dX3_requireAtom_16 dX3_requireAtom_18 dX3_requireAtom_21 htab (by decide) (Nat.le_of_ble_eq_true rfl) (Nat.le_of_ble_eq_true rfl) (Nat.le_of_ble_eq_true rfl) hlocks (⟨rfl, fun h => h2 (bv_lt4.mpr h.2)⟩) (by decide) (by decide)
theorem bv_sub2_X3_requireRank : ∀ w ∈ (vx_atS RX3 74 "java/lang/IllegalArgumentException" bv_nms).filter goodWord, w ∈ wsX3_requireRank := by decide +kernel
set_option maxHeartbeats 4000000 in
set_option maxRecDepth 100000 in
theorem m_X3_requireRank (l : Launch) (hst : l.stackTraces = false) (G : va_G) (cI : ClassId) (H0 : Heap) (r : Int32) : vx_Met l yX3_requireRank wsX3_requireRank ({ frames := 6, cells := 1, slots := 6, locals := 90 }) (bv_PX [.int r] G cI (fun H => H = H0 ∧ va_P G vwCl [] H)) (va_Qv (fun _ : Unit => (1 ≤ r ∧ r ≤ 9)) (fun _ (T9 : State) => T9.heap = H0) (fun _ => False)) (vx_X (fun _ : Unit => True) (fun (X9 : String) _ _ => X9 = "java/lang/IllegalArgumentException" ∧ ¬ (1 ≤ r ∧ r ≤ 9)) (fun _ => False)) 1 6 (fun _ => False) := by
  refine vx_ofW (cc := cX3_requireRank) (maxL := 1) (ret := none) (by decide) rfl ?_
  intro p e s m args below meth c s₁ B hml htab hv
  obtain ⟨rfl, ⟨hH0, hP⟩, hE, hX⟩ := hv
  have hx := B.exec
  have hb := B.bytes
  have hr := B.returns
  have hts := atoms_spec (ws := wsX3_requireRank) B.pre
  have hown : s.vm.findClass RX3 = some m.cls := findClass_of_methodNamed B.named
  have hlocks := B.notSynchronized
  have hK := hE.1
  have hw0 := hts (.classLink RX3 70 "java/lang/IllegalArgumentException") (List.mem_of_getElem? (i := 1) rfl)
  have hw1 := hts (.initialized "java/lang/IllegalArgumentException") (List.mem_of_getElem? (i := 2) rfl)
  subst hH0
  have hP : va_P G vwCl [] s.heap := hP
  have hl := lv_entry ([.int r]) (n := 1) (Nat.le_of_ble_eq_true rfl)
  rw [lg_entry_eq]
  generalize (lg_sl ([.int r]) ++ List.replicate (1 - (lg_sl ([.int r])).length) Slot.unset).toArray = ls at hl ⊢
  have hl : lv_has ls 1 [(0, .int r)] := hl
  refine lv_iload_n (pc := 0) hx hb dX3_requireRank_0 rfl (lv_at hl 0 rfl) ?_
  refine lv_iconst (pc := 1) (v := 1) hx hb dX3_requireRank_1 (by decide) ?_
  refine lv_icmp_lt (pc := 2) (tgt := 11) hx hb dX3_requireRank_2 (by decide) (fun c2_1 => ?_) (fun c2_1 => ?_)
  · have h1 := c2_1
    exact bv_throw hx hb hst hX hown hw0 hw1 (hX.1 (202, "the rank is not 1 to 9") (List.mem_of_getElem? (i := 8) rfl)) (hX.2.1 (74, "java/lang/IllegalArgumentException") (List.mem_of_getElem? (i := 2) rfl)) (fun w hw => hts w (bv_sub2_X3_requireRank w hw)) (by decide +kernel) (by decide +kernel) (by decide +kernel) (hl.1.trans hml.symm) dX3_requireRank_11 dX3_requireRank_14 dX3_requireRank_15 dX3_requireRank_17 dX3_requireRank_20 htab (by decide) (Nat.le_of_ble_eq_true rfl) (Nat.le_of_ble_eq_true rfl) (Nat.le_of_ble_eq_true rfl) hlocks (⟨rfl, fun h => Int32.not_lt.mpr h.1 h1⟩) (by decide) (by decide)
  · have h1 := c2_1
    refine lv_iload_n (pc := 5) hx hb dX3_requireRank_5 rfl (lv_at hl 0 rfl) ?_
    refine lv_bipush (pc := 6) (v := 9) hx hb dX3_requireRank_6 (by decide) ?_
    refine lv_icmp_le (pc := 8) (tgt := 21) hx hb dX3_requireRank_8 (by decide) (fun c8_2 => ?_) (fun c8_2 => ?_)
    · have h2 := c8_2
      refine vx_ret ?_
      refine W.widen (k := 1) (n := 6) (by decide) (by decide) ?_
      exact W.vret (pc := 21) hx hb hr (fun T8 hT8 hW8 => ⟨⟨(), rfl, ⟨Int32.not_lt.mp h1, h2⟩, hT8⟩, (va_S.rf (A := fun _ => False)).F hT8⟩) (fun _ h => nomatch h) dX3_requireRank_21
    · have h2 := c8_2
      exact bv_throw hx hb hst hX hown hw0 hw1 (hX.1 (202, "the rank is not 1 to 9") (List.mem_of_getElem? (i := 8) rfl)) (hX.2.1 (74, "java/lang/IllegalArgumentException") (List.mem_of_getElem? (i := 2) rfl)) (fun w hw => hts w (bv_sub2_X3_requireRank w hw)) (by decide +kernel) (by decide +kernel) (by decide +kernel) (hl.1.trans hml.symm) dX3_requireRank_11 dX3_requireRank_14 dX3_requireRank_15 dX3_requireRank_17 dX3_requireRank_20 htab (by decide) (Nat.le_of_ble_eq_true rfl) (Nat.le_of_ble_eq_true rfl) (Nat.le_of_ble_eq_true rfl) hlocks (⟨rfl, fun h => h2 h.2⟩) (by decide) (by decide)
theorem bv_sub1_X3_requirePileRoom : ∀ w ∈ (vx_atS RX3 101 "java/lang/IllegalStateException" bv_nms).filter goodWord, w ∈ wsX3_requirePileRoom := by decide +kernel
set_option maxHeartbeats 4000000 in
set_option maxRecDepth 100000 in
theorem m_X3_requirePileRoom (l : Launch) (hst : l.stackTraces = false) (G : va_G) (cI : ClassId) (H0 : Heap) (x xp ap pn xb as ar am bn xm al ak : Nat) (pf bs br mt lv ks : Nat → Int32) (hp : pn ≤ 12) : vx_Met l yX3_requirePileRoom wsX3_requirePileRoom ({ frames := 6, cells := 1, slots := 6, locals := 90 }) (bv_PX [.ref x] G cI (fun H => H = H0 ∧ va_P G vwCl [(x, .inr (3, [.ref xp, .ref xb, .ref xm])), (xp, .inr (2, [.ref ap, .int (nI pn)])), (ap, .inl (cI, 12, .inl pf)), (xb, .inr (0, [.ref as, .ref ar, .ref am, .int (nI bn)])), (as, .inl (cI, 10, .inl bs)), (ar, .inl (cI, 10, .inl br)), (am, .inl (cI, 1024, .inl mt)), (xm, .inr (1, [.ref al, .ref ak])), (al, .inl (cI, 16, .inl lv)), (ak, .inl (cI, 16, .inl ks))] H)) (va_Qv (fun _ : Unit => (pn < 12)) (fun _ (T9 : State) => T9.heap = H0) (fun _ => False)) (vx_X (fun _ : Unit => True) (fun (X9 : String) _ _ => X9 = "java/lang/IllegalStateException" ∧ ¬ (pn < 12)) (fun _ => False)) 1 6 (fun _ => False) := by
  refine vx_ofW (cc := cX3_requirePileRoom) (maxL := 1) (ret := none) (by decide) rfl ?_
  intro p e s m args below meth c s₁ B hml htab hv
  obtain ⟨rfl, ⟨hH0, hP⟩, hE, hX⟩ := hv
  have hx := B.exec
  have hb := B.bytes
  have hr := B.returns
  have hts := atoms_spec (ws := wsX3_requirePileRoom) B.pre
  have hown : s.vm.findClass RX3 = some m.cls := findClass_of_methodNamed B.named
  have hlocks := B.notSynchronized
  have hK := hE.1
  have hw0 := hts (.fieldLink RX3 12 "BeliefReviser" "pile" "LBeliefReviser$Pile;") (List.mem_of_getElem? (i := 3) rfl)
  have hw1 : ∀ w ∈ u_ws RX3 TX3 3, w ∈ wsX3_requirePileRoom := by decide +kernel
  have hw2 := hts (.classLink RX3 97 "java/lang/IllegalStateException") (List.mem_of_getElem? (i := 1) rfl)
  have hw3 := hts (.initialized "java/lang/IllegalStateException") (List.mem_of_getElem? (i := 2) rfl)
  subst hH0
  have hP : va_P G vwCl [(x, .inr (3, [.ref xp, .ref xb, .ref xm])), (xp, .inr (2, [.ref ap, .int (nI pn)])), (ap, .inl (cI, 12, .inl pf)), (xb, .inr (0, [.ref as, .ref ar, .ref am, .int (nI bn)])), (as, .inl (cI, 10, .inl bs)), (ar, .inl (cI, 10, .inl br)), (am, .inl (cI, 1024, .inl mt)), (xm, .inr (1, [.ref al, .ref ak])), (al, .inl (cI, 16, .inl lv)), (ak, .inl (cI, 16, .inl ks))] s.heap := hP
  have hl := lv_entry ([.ref x]) (n := 1) (Nat.le_of_ble_eq_true rfl)
  rw [lg_entry_eq]
  generalize (lg_sl ([.ref x]) ++ List.replicate (1 - (lg_sl ([.ref x])).length) Slot.unset).toArray = ls at hl ⊢
  have hl : lv_has ls 1 [(0, .ref x)] := hl
  refine lv_aload_n (pc := 0) hx hb dX3_requirePileRoom_0 rfl (lv_at hl 0 rfl) ?_
  refine va_get (pc := 1) (D := G) (ci := 3) (v := .ref xp) (C := RX3) (T := TX3) (N := 3) hx hb hts hw1 hown hK hP 0 rfl rfl 0 (by decide) hw0 (fun _ h9 => h9) rfl dX3_requirePileRoom_1 ?_
  have hPc := hP.sub (ws' := [(xp, .inr (2, [.ref ap, .int (nI pn)])), (ap, .inl (cI, 12, .inl pf))]) [1, 2] rfl
  refine bv_cSi (pc := 4) (E' := (bv_b (decide (12 ≤ pn)))) (va_runV (As := []) (rest := []) ⟨hx, hb, hml, hown, hts⟩ (m_X2_isFull l G cI xp ap pn pf (by first | assumption | omega)) (cwV 0 hts gX3_requirePileRoom_X2_isFull rfl rfl rfl (by decide +kernel) ⟨Nat.le_of_ble_eq_true rfl, Nat.le_of_ble_eq_true rfl⟩) (bv_pV hE hPc (va_recv hK hP (ci := 2) (q0 := 1) rfl rfl)) rfl rfl hl.1 rfl (lv_room (Nat.le_of_ble_eq_true rfl)) dX3_requirePileRoom_4 ⟨Nat.le_of_ble_eq_true rfl, Nat.le_of_ble_eq_true rfl⟩) rfl ?_
  refine lv_if_eq (pc := 7) (tgt := 20) hx hb dX3_requirePileRoom_7 (by decide) (fun c7_3 => ?_) (fun c7_3 => ?_)
  · have h1 := of_decide_eq_false (bv_b0.mp c7_3)
    refine vx_ret ?_
    refine W.widen (k := 1) (n := 6) (by decide) (by decide) ?_
    exact W.vret (pc := 20) hx hb hr (fun T8 hT8 hW8 => ⟨⟨(), rfl, (by omega), hT8⟩, (va_S.rf (A := fun _ => False)).F hT8⟩) (fun _ h => nomatch h) dX3_requirePileRoom_20
  · have h1 := of_decide_eq_true (bv_b1.mp c7_3)
    exact bv_throw hx hb hst hX hown hw2 hw3 (hX.1 (205, "the pile has 12 sentences") (List.mem_of_getElem? (i := 9) rfl)) (hX.2.1 (101, "java/lang/IllegalStateException") (List.mem_of_getElem? (i := 1) rfl)) (fun w hw => hts w (bv_sub1_X3_requirePileRoom w hw)) (by decide +kernel) (by decide +kernel) (by decide +kernel) (hl.1.trans hml.symm) dX3_requirePileRoom_10 dX3_requirePileRoom_13 dX3_requirePileRoom_14 dX3_requirePileRoom_16 dX3_requirePileRoom_19 htab (by decide) (Nat.le_of_ble_eq_true rfl) (Nat.le_of_ble_eq_true rfl) (Nat.le_of_ble_eq_true rfl) hlocks (⟨rfl, by omega⟩) (by decide) (by decide)
theorem bv_sub1_X3_requireTop : ∀ w ∈ (vx_atS RX3 101 "java/lang/IllegalStateException" bv_nms).filter goodWord, w ∈ wsX3_requireTop := by decide +kernel
set_option maxHeartbeats 4000000 in
set_option maxRecDepth 100000 in
theorem m_X3_requireTop (l : Launch) (hst : l.stackTraces = false) (G : va_G) (cI : ClassId) (H0 : Heap) (x xp ap pn xb as ar am bn xm al ak : Nat) (pf bs br mt lv ks : Nat → Int32) (hp : pn ≤ 12) : vx_Met l yX3_requireTop wsX3_requireTop ({ frames := 6, cells := 1, slots := 6, locals := 90 }) (bv_PX [.ref x] G cI (fun H => H = H0 ∧ va_P G vwCl [(x, .inr (3, [.ref xp, .ref xb, .ref xm])), (xp, .inr (2, [.ref ap, .int (nI pn)])), (ap, .inl (cI, 12, .inl pf)), (xb, .inr (0, [.ref as, .ref ar, .ref am, .int (nI bn)])), (as, .inl (cI, 10, .inl bs)), (ar, .inl (cI, 10, .inl br)), (am, .inl (cI, 1024, .inl mt)), (xm, .inr (1, [.ref al, .ref ak])), (al, .inl (cI, 16, .inl lv)), (ak, .inl (cI, 16, .inl ks))] H)) (va_Qi (fun (r9 : Int32) (_ : Unit) => r9 = (pf (pn - 1)) ∧ (1 ≤ pn)) (fun _ (T9 : State) => T9.heap = H0) (fun _ => False)) (vx_X (fun _ : Unit => True) (fun (X9 : String) _ _ => X9 = "java/lang/IllegalStateException" ∧ ¬ (1 ≤ pn)) (fun _ => False)) 1 6 (fun _ => False) := by
  refine vx_ofW (cc := cX3_requireTop) (maxL := 1) (ret := (some .int)) (by decide) rfl ?_
  intro p e s m args below meth c s₁ B hml htab hv
  obtain ⟨rfl, ⟨hH0, hP⟩, hE, hX⟩ := hv
  have hx := B.exec
  have hb := B.bytes
  have hr := B.returns
  have hts := atoms_spec (ws := wsX3_requireTop) B.pre
  have hown : s.vm.findClass RX3 = some m.cls := findClass_of_methodNamed B.named
  have hlocks := B.notSynchronized
  have hK := hE.1
  have hw0 := hts (.fieldLink RX3 12 "BeliefReviser" "pile" "LBeliefReviser$Pile;") (List.mem_of_getElem? (i := 3) rfl)
  have hw1 : ∀ w ∈ u_ws RX3 TX3 3, w ∈ wsX3_requireTop := by decide +kernel
  have hw2 := hts (.classLink RX3 97 "java/lang/IllegalStateException") (List.mem_of_getElem? (i := 1) rfl)
  have hw3 := hts (.initialized "java/lang/IllegalStateException") (List.mem_of_getElem? (i := 2) rfl)
  subst hH0
  have hP : va_P G vwCl [(x, .inr (3, [.ref xp, .ref xb, .ref xm])), (xp, .inr (2, [.ref ap, .int (nI pn)])), (ap, .inl (cI, 12, .inl pf)), (xb, .inr (0, [.ref as, .ref ar, .ref am, .int (nI bn)])), (as, .inl (cI, 10, .inl bs)), (ar, .inl (cI, 10, .inl br)), (am, .inl (cI, 1024, .inl mt)), (xm, .inr (1, [.ref al, .ref ak])), (al, .inl (cI, 16, .inl lv)), (ak, .inl (cI, 16, .inl ks))] s.heap := hP
  have hl := lv_entry ([.ref x]) (n := 1) (Nat.le_of_ble_eq_true rfl)
  rw [lg_entry_eq]
  generalize (lg_sl ([.ref x]) ++ List.replicate (1 - (lg_sl ([.ref x])).length) Slot.unset).toArray = ls at hl ⊢
  have hl : lv_has ls 1 [(0, .ref x)] := hl
  refine lv_aload_n (pc := 0) hx hb dX3_requireTop_0 rfl (lv_at hl 0 rfl) ?_
  refine va_get (pc := 1) (D := G) (ci := 3) (v := .ref xp) (C := RX3) (T := TX3) (N := 3) hx hb hts hw1 hown hK hP 0 rfl rfl 0 (by decide) hw0 (fun _ h9 => h9) rfl dX3_requireTop_1 ?_
  have hPc := hP.sub (ws' := [(xp, .inr (2, [.ref ap, .int (nI pn)])), (ap, .inl (cI, 12, .inl pf))]) [1, 2] rfl
  refine bv_cSi (pc := 4) (E' := (nI pn)) (va_runV (As := []) (rest := []) ⟨hx, hb, hml, hown, hts⟩ (m_X2_count l G cI xp ap pn pf ) (cwV 0 hts gX3_requireTop_X2_count rfl rfl rfl (by decide +kernel) ⟨Nat.le_of_ble_eq_true rfl, Nat.le_of_ble_eq_true rfl⟩) (bv_pV hE hPc (va_recv hK hP (ci := 2) (q0 := 1) rfl rfl)) rfl rfl hl.1 rfl (lv_room (Nat.le_of_ble_eq_true rfl)) dX3_requireTop_4 ⟨Nat.le_of_ble_eq_true rfl, Nat.le_of_ble_eq_true rfl⟩) rfl ?_
  refine lv_iconst (pc := 7) (v := 1) hx hb dX3_requireTop_7 (by decide) ?_
  refine lv_icmp_ge (pc := 8) (tgt := 21) hx hb dX3_requireTop_8 (by decide) (fun c8_3 => ?_) (fun c8_3 => ?_)
  · have h1 : 1 ≤ pn := by
      by_cases h : 1 ≤ pn
      · exact h
      · exact absurd (show nI 1 ≤ nI pn from c8_3) (nI_ge (by omega) (by decide))
    refine lv_aload_n (pc := 21) hx hb dX3_requireTop_21 rfl (lv_at hl 0 rfl) ?_
    refine va_get (pc := 22) (D := G) (ci := 3) (v := .ref xp) (C := RX3) (T := TX3) (N := 3) hx hb hts hw1 hown hK hP 0 rfl rfl 0 (by decide) hw0 (fun _ h9 => h9) rfl dX3_requireTop_22 ?_
    refine lv_iconst (pc := 25) (v := 0) hx hb dX3_requireTop_25 (by decide) ?_
    have hPc := hP.sub (ws' := [(xp, .inr (2, [.ref ap, .int (nI pn)])), (ap, .inl (cI, 12, .inl pf))]) [1, 2] rfl
    refine bv_cSi (pc := 26) (E' := (pf (pn - 1 - 0))) (va_runV (As := [.int 0]) (rest := []) ⟨hx, hb, hml, hown, hts⟩ (m_X2_below l G cI xp ap pn pf 0 h1 (by first | assumption | omega)) (cwV 1 hts gX3_requireTop_X2_below rfl rfl rfl (by decide +kernel) ⟨Nat.le_of_ble_eq_true rfl, Nat.le_of_ble_eq_true rfl⟩) (bv_pV hE hPc (va_recv hK hP (ci := 2) (q0 := 1) rfl rfl)) rfl rfl hl.1 rfl (lv_room (Nat.le_of_ble_eq_true rfl)) dX3_requireTop_26 ⟨Nat.le_of_ble_eq_true rfl, Nat.le_of_ble_eq_true rfl⟩) rfl ?_
    refine vx_ret ?_
    refine W.widen (k := 1) (n := 6) (by decide) (by decide) ?_
    exact W.iret (pc := 29) (v := (pf (pn - 1 - 0))) hx hb hr (fun T8 hT8 hW8 => ⟨⟨(pf (pn - 1 - 0)), (), rfl, ⟨(by rw [Nat.sub_zero]), h1⟩, hT8⟩, (va_S.rf (A := fun _ => False)).F hT8⟩) (fun _ h => nomatch h) dX3_requireTop_29
  · have h1 : ¬ 1 ≤ pn := fun h => c8_3 (show nI 1 ≤ nI pn from nI_le h (by omega))
    exact bv_throw hx hb hst hX hown hw2 hw3 (hX.1 (207, "the pile is empty") (List.mem_of_getElem? (i := 10) rfl)) (hX.2.1 (101, "java/lang/IllegalStateException") (List.mem_of_getElem? (i := 1) rfl)) (fun w hw => hts w (bv_sub1_X3_requireTop w hw)) (by decide +kernel) (by decide +kernel) (by decide +kernel) (hl.1.trans hml.symm) dX3_requireTop_11 dX3_requireTop_14 dX3_requireTop_15 dX3_requireTop_17 dX3_requireTop_20 htab (by decide) (Nat.le_of_ble_eq_true rfl) (Nat.le_of_ble_eq_true rfl) (Nat.le_of_ble_eq_true rfl) hlocks (⟨rfl, h1⟩) (by decide) (by decide)
theorem bv_sub1_X3_requireTwo : ∀ w ∈ (vx_atS RX3 101 "java/lang/IllegalStateException" bv_nms).filter goodWord, w ∈ wsX3_requireTwo := by decide +kernel
set_option maxHeartbeats 4000000 in
set_option maxRecDepth 100000 in
theorem m_X3_requireTwo (l : Launch) (hst : l.stackTraces = false) (G : va_G) (cI : ClassId) (H0 : Heap) (x xp ap pn xb as ar am bn xm al ak : Nat) (pf bs br mt lv ks : Nat → Int32) (hp : pn ≤ 12) : vx_Met l yX3_requireTwo wsX3_requireTwo ({ frames := 6, cells := 1, slots := 6, locals := 90 }) (bv_PX [.ref x] G cI (fun H => H = H0 ∧ va_P G vwCl [(x, .inr (3, [.ref xp, .ref xb, .ref xm])), (xp, .inr (2, [.ref ap, .int (nI pn)])), (ap, .inl (cI, 12, .inl pf)), (xb, .inr (0, [.ref as, .ref ar, .ref am, .int (nI bn)])), (as, .inl (cI, 10, .inl bs)), (ar, .inl (cI, 10, .inl br)), (am, .inl (cI, 1024, .inl mt)), (xm, .inr (1, [.ref al, .ref ak])), (al, .inl (cI, 16, .inl lv)), (ak, .inl (cI, 16, .inl ks))] H)) (va_Qv (fun _ : Unit => (2 ≤ pn)) (fun _ (T9 : State) => T9.heap = H0) (fun _ => False)) (vx_X (fun _ : Unit => True) (fun (X9 : String) _ _ => X9 = "java/lang/IllegalStateException" ∧ ¬ (2 ≤ pn)) (fun _ => False)) 1 6 (fun _ => False) := by
  refine vx_ofW (cc := cX3_requireTwo) (maxL := 1) (ret := none) (by decide) rfl ?_
  intro p e s m args below meth c s₁ B hml htab hv
  obtain ⟨rfl, ⟨hH0, hP⟩, hE, hX⟩ := hv
  have hx := B.exec
  have hb := B.bytes
  have hr := B.returns
  have hts := atoms_spec (ws := wsX3_requireTwo) B.pre
  have hown : s.vm.findClass RX3 = some m.cls := findClass_of_methodNamed B.named
  have hlocks := B.notSynchronized
  have hK := hE.1
  have hw0 := hts (.fieldLink RX3 12 "BeliefReviser" "pile" "LBeliefReviser$Pile;") (List.mem_of_getElem? (i := 3) rfl)
  have hw1 : ∀ w ∈ u_ws RX3 TX3 3, w ∈ wsX3_requireTwo := by decide +kernel
  have hw2 := hts (.classLink RX3 97 "java/lang/IllegalStateException") (List.mem_of_getElem? (i := 1) rfl)
  have hw3 := hts (.initialized "java/lang/IllegalStateException") (List.mem_of_getElem? (i := 2) rfl)
  subst hH0
  have hP : va_P G vwCl [(x, .inr (3, [.ref xp, .ref xb, .ref xm])), (xp, .inr (2, [.ref ap, .int (nI pn)])), (ap, .inl (cI, 12, .inl pf)), (xb, .inr (0, [.ref as, .ref ar, .ref am, .int (nI bn)])), (as, .inl (cI, 10, .inl bs)), (ar, .inl (cI, 10, .inl br)), (am, .inl (cI, 1024, .inl mt)), (xm, .inr (1, [.ref al, .ref ak])), (al, .inl (cI, 16, .inl lv)), (ak, .inl (cI, 16, .inl ks))] s.heap := hP
  have hl := lv_entry ([.ref x]) (n := 1) (Nat.le_of_ble_eq_true rfl)
  rw [lg_entry_eq]
  generalize (lg_sl ([.ref x]) ++ List.replicate (1 - (lg_sl ([.ref x])).length) Slot.unset).toArray = ls at hl ⊢
  have hl : lv_has ls 1 [(0, .ref x)] := hl
  refine lv_aload_n (pc := 0) hx hb dX3_requireTwo_0 rfl (lv_at hl 0 rfl) ?_
  refine va_get (pc := 1) (D := G) (ci := 3) (v := .ref xp) (C := RX3) (T := TX3) (N := 3) hx hb hts hw1 hown hK hP 0 rfl rfl 0 (by decide) hw0 (fun _ h9 => h9) rfl dX3_requireTwo_1 ?_
  have hPc := hP.sub (ws' := [(xp, .inr (2, [.ref ap, .int (nI pn)])), (ap, .inl (cI, 12, .inl pf))]) [1, 2] rfl
  refine bv_cSi (pc := 4) (E' := (nI pn)) (va_runV (As := []) (rest := []) ⟨hx, hb, hml, hown, hts⟩ (m_X2_count l G cI xp ap pn pf ) (cwV 0 hts gX3_requireTwo_X2_count rfl rfl rfl (by decide +kernel) ⟨Nat.le_of_ble_eq_true rfl, Nat.le_of_ble_eq_true rfl⟩) (bv_pV hE hPc (va_recv hK hP (ci := 2) (q0 := 1) rfl rfl)) rfl rfl hl.1 rfl (lv_room (Nat.le_of_ble_eq_true rfl)) dX3_requireTwo_4 ⟨Nat.le_of_ble_eq_true rfl, Nat.le_of_ble_eq_true rfl⟩) rfl ?_
  refine lv_iconst (pc := 7) (v := 2) hx hb dX3_requireTwo_7 (by decide) ?_
  refine lv_icmp_ge (pc := 8) (tgt := 21) hx hb dX3_requireTwo_8 (by decide) (fun c8_3 => ?_) (fun c8_3 => ?_)
  · have h1 : 2 ≤ pn := by
      by_cases h : 2 ≤ pn
      · exact h
      · exact absurd (show nI 2 ≤ nI pn from c8_3) (nI_ge (by omega) (by decide))
    refine vx_ret ?_
    refine W.widen (k := 1) (n := 6) (by decide) (by decide) ?_
    exact W.vret (pc := 21) hx hb hr (fun T8 hT8 hW8 => ⟨⟨(), rfl, h1, hT8⟩, (va_S.rf (A := fun _ => False)).F hT8⟩) (fun _ h => nomatch h) dX3_requireTwo_21
  · have h1 : ¬ 2 ≤ pn := fun h => c8_3 (show nI 2 ≤ nI pn from nI_le h (by omega))
    exact bv_throw hx hb hst hX hown hw2 hw3 (hX.1 (209, "the pile has fewer than two sentences") (List.mem_of_getElem? (i := 11) rfl)) (hX.2.1 (101, "java/lang/IllegalStateException") (List.mem_of_getElem? (i := 1) rfl)) (fun w hw => hts w (bv_sub1_X3_requireTwo w hw)) (by decide +kernel) (by decide +kernel) (by decide +kernel) (hl.1.trans hml.symm) dX3_requireTwo_11 dX3_requireTwo_14 dX3_requireTwo_15 dX3_requireTwo_17 dX3_requireTwo_20 htab (by decide) (Nat.le_of_ble_eq_true rfl) (Nat.le_of_ble_eq_true rfl) (Nat.le_of_ble_eq_true rfl) hlocks (⟨rfl, h1⟩) (by decide) (by decide)
theorem bv_sub0_X3_requireSentence : ∀ w ∈ (vx_atS RX3 161 "java/lang/IndexOutOfBoundsException" bv_nms).filter goodWord, w ∈ wsX3_requireSentence := by decide +kernel
set_option maxHeartbeats 4000000 in
set_option maxRecDepth 100000 in
theorem m_X3_requireSentence (l : Launch) (hst : l.stackTraces = false) (G : va_G) (cI : ClassId) (H0 : Heap) (x xp ap pn xb as ar am bn xm al ak : Nat) (pf bs br mt lv ks : Nat → Int32) (k : Int32) (hn : bn ≤ 10) : vx_Met l yX3_requireSentence wsX3_requireSentence ({ frames := 6, cells := 1, slots := 6, locals := 90 }) (bv_PX [.ref x, .int k] G cI (fun H => H = H0 ∧ va_P G vwCl [(x, .inr (3, [.ref xp, .ref xb, .ref xm])), (xp, .inr (2, [.ref ap, .int (nI pn)])), (ap, .inl (cI, 12, .inl pf)), (xb, .inr (0, [.ref as, .ref ar, .ref am, .int (nI bn)])), (as, .inl (cI, 10, .inl bs)), (ar, .inl (cI, 10, .inl br)), (am, .inl (cI, 1024, .inl mt)), (xm, .inr (1, [.ref al, .ref ak])), (al, .inl (cI, 16, .inl lv)), (ak, .inl (cI, 16, .inl ks))] H)) (va_Qv (fun _ : Unit => (0 ≤ k ∧ k < nI bn)) (fun _ (T9 : State) => T9.heap = H0) (fun _ => False)) (vx_X (fun _ : Unit => True) (fun (X9 : String) _ _ => X9 = "java/lang/IndexOutOfBoundsException" ∧ ¬ (0 ≤ k ∧ k < nI bn)) (fun _ => False)) 1 6 (fun _ => False) := by
  refine vx_ofW (cc := cX3_requireSentence) (maxL := 2) (ret := none) (by decide) rfl ?_
  intro p e s m args below meth c s₁ B hml htab hv
  obtain ⟨rfl, ⟨hH0, hP⟩, hE, hX⟩ := hv
  have hx := B.exec
  have hb := B.bytes
  have hr := B.returns
  have hts := atoms_spec (ws := wsX3_requireSentence) B.pre
  have hown : s.vm.findClass RX3 = some m.cls := findClass_of_methodNamed B.named
  have hlocks := B.notSynchronized
  have hK := hE.1
  have hw0 := hts (.classLink RX3 157 "java/lang/IndexOutOfBoundsException") (List.mem_of_getElem? (i := 1) rfl)
  have hw1 := hts (.initialized "java/lang/IndexOutOfBoundsException") (List.mem_of_getElem? (i := 2) rfl)
  have hw2 := hts (.fieldLink RX3 19 "BeliefReviser" "base" "LBeliefReviser$Base;") (List.mem_of_getElem? (i := 3) rfl)
  have hw3 : ∀ w ∈ u_ws RX3 TX3 3, w ∈ wsX3_requireSentence := by decide +kernel
  subst hH0
  have hP : va_P G vwCl [(x, .inr (3, [.ref xp, .ref xb, .ref xm])), (xp, .inr (2, [.ref ap, .int (nI pn)])), (ap, .inl (cI, 12, .inl pf)), (xb, .inr (0, [.ref as, .ref ar, .ref am, .int (nI bn)])), (as, .inl (cI, 10, .inl bs)), (ar, .inl (cI, 10, .inl br)), (am, .inl (cI, 1024, .inl mt)), (xm, .inr (1, [.ref al, .ref ak])), (al, .inl (cI, 16, .inl lv)), (ak, .inl (cI, 16, .inl ks))] s.heap := hP
  have hl := lv_entry ([.ref x, .int k]) (n := 2) (Nat.le_of_ble_eq_true rfl)
  rw [lg_entry_eq]
  generalize (lg_sl ([.ref x, .int k]) ++ List.replicate (2 - (lg_sl ([.ref x, .int k])).length) Slot.unset).toArray = ls at hl ⊢
  have hl : lv_has ls 2 [(0, .ref x), (1, .int k)] := hl
  refine lv_iload_n (pc := 0) hx hb dX3_requireSentence_0 rfl (lv_at hl 1 rfl) ?_
  refine lv_if_lt (pc := 1) (tgt := 15) hx hb dX3_requireSentence_1 (by decide) (fun c1_1 => ?_) (fun c1_1 => ?_)
  · have h1 := c1_1
    exact bv_throw hx hb hst hX hown hw0 hw1 (hX.1 (211, "the base has no such sentence") (List.mem_of_getElem? (i := 12) rfl)) (hX.2.1 (161, "java/lang/IndexOutOfBoundsException") (List.mem_of_getElem? (i := 0) rfl)) (fun w hw => hts w (bv_sub0_X3_requireSentence w hw)) (by decide +kernel) (by decide +kernel) (by decide +kernel) (hl.1.trans hml.symm) dX3_requireSentence_15 dX3_requireSentence_18 dX3_requireSentence_19 dX3_requireSentence_21 dX3_requireSentence_24 htab (by decide) (Nat.le_of_ble_eq_true rfl) (Nat.le_of_ble_eq_true rfl) (Nat.le_of_ble_eq_true rfl) hlocks (⟨rfl, fun h => Int32.not_lt.mpr h.1 h1⟩) (by decide) (by decide)
  · have h1 := c1_1
    refine lv_iload_n (pc := 4) hx hb dX3_requireSentence_4 rfl (lv_at hl 1 rfl) ?_
    refine lv_aload_n (pc := 5) hx hb dX3_requireSentence_5 rfl (lv_at hl 0 rfl) ?_
    refine va_get (pc := 6) (D := G) (ci := 3) (v := .ref xb) (C := RX3) (T := TX3) (N := 3) hx hb hts hw3 hown hK hP 0 rfl rfl 1 (by decide) hw2 (fun _ h9 => h9) rfl dX3_requireSentence_6 ?_
    have hPc := hP.sub (ws' := [(xb, .inr (0, [.ref as, .ref ar, .ref am, .int (nI bn)])), (as, .inl (cI, 10, .inl bs)), (ar, .inl (cI, 10, .inl br)), (am, .inl (cI, 1024, .inl mt))]) [3, 4, 5, 6] rfl
    refine bv_cSi (pc := 9) (E' := (nI bn)) (va_runV (As := []) (rest := [.int k]) ⟨hx, hb, hml, hown, hts⟩ (m_X0_count l G cI xb as ar am bn bs br mt ) (cwV 0 hts gX3_requireSentence_X0_count rfl rfl rfl (by decide +kernel) ⟨Nat.le_of_ble_eq_true rfl, Nat.le_of_ble_eq_true rfl⟩) (bv_pV hE hPc (va_recv hK hP (ci := 0) (q0 := 3) rfl rfl)) rfl rfl hl.1 rfl (lv_room (Nat.le_of_ble_eq_true rfl)) dX3_requireSentence_9 ⟨Nat.le_of_ble_eq_true rfl, Nat.le_of_ble_eq_true rfl⟩) rfl ?_
    refine lv_icmp_lt (pc := 12) (tgt := 25) hx hb dX3_requireSentence_12 (by decide) (fun c12_4 => ?_) (fun c12_4 => ?_)
    · have h2 := c12_4
      refine vx_ret ?_
      refine W.widen (k := 1) (n := 6) (by decide) (by decide) ?_
      exact W.vret (pc := 25) hx hb hr (fun T8 hT8 hW8 => ⟨⟨(), rfl, ⟨Int32.not_lt.mp h1, h2⟩, hT8⟩, (va_S.rf (A := fun _ => False)).F hT8⟩) (fun _ h => nomatch h) dX3_requireSentence_25
    · have h2 := c12_4
      exact bv_throw hx hb hst hX hown hw0 hw1 (hX.1 (211, "the base has no such sentence") (List.mem_of_getElem? (i := 12) rfl)) (hX.2.1 (161, "java/lang/IndexOutOfBoundsException") (List.mem_of_getElem? (i := 0) rfl)) (fun w hw => hts w (bv_sub0_X3_requireSentence w hw)) (by decide +kernel) (by decide +kernel) (by decide +kernel) (hl.1.trans hml.symm) dX3_requireSentence_15 dX3_requireSentence_18 dX3_requireSentence_19 dX3_requireSentence_21 dX3_requireSentence_24 htab (by decide) (Nat.le_of_ble_eq_true rfl) (Nat.le_of_ble_eq_true rfl) (Nat.le_of_ble_eq_true rfl) hlocks (⟨rfl, fun h => h2 h.2⟩) (by decide) (by decide)
theorem bv_sub2_X3_requireSet : ∀ w ∈ (vx_atS RX3 74 "java/lang/IllegalArgumentException" bv_nms).filter goodWord, w ∈ wsX3_requireSet := by decide +kernel
set_option maxHeartbeats 4000000 in
set_option maxRecDepth 100000 in
theorem m_X3_requireSet (l : Launch) (hst : l.stackTraces = false) (G : va_G) (cI : ClassId) (H0 : Heap) (x xp ap pn xb as ar am bn xm al ak : Nat) (pf bs br mt lv ks : Nat → Int32) (k : Int32) (hn : bn ≤ 10) : vx_Met l yX3_requireSet wsX3_requireSet ({ frames := 6, cells := 1, slots := 6, locals := 90 }) (bv_PX [.ref x, .int k] G cI (fun H => H = H0 ∧ va_P G vwCl [(x, .inr (3, [.ref xp, .ref xb, .ref xm])), (xp, .inr (2, [.ref ap, .int (nI pn)])), (ap, .inl (cI, 12, .inl pf)), (xb, .inr (0, [.ref as, .ref ar, .ref am, .int (nI bn)])), (as, .inl (cI, 10, .inl bs)), (ar, .inl (cI, 10, .inl br)), (am, .inl (cI, 1024, .inl mt)), (xm, .inr (1, [.ref al, .ref ak])), (al, .inl (cI, 16, .inl lv)), (ak, .inl (cI, 16, .inl ks))] H)) (va_Qv (fun _ : Unit => (0 ≤ k ∧ k < nI (2 ^ bn))) (fun _ (T9 : State) => T9.heap = H0) (fun _ => False)) (vx_X (fun _ : Unit => True) (fun (X9 : String) _ _ => X9 = "java/lang/IllegalArgumentException" ∧ ¬ (0 ≤ k ∧ k < nI (2 ^ bn))) (fun _ => False)) 1 6 (fun _ => False) := by
  refine vx_ofW (cc := cX3_requireSet) (maxL := 2) (ret := none) (by decide) rfl ?_
  intro p e s m args below meth c s₁ B hml htab hv
  obtain ⟨rfl, ⟨hH0, hP⟩, hE, hX⟩ := hv
  have hx := B.exec
  have hb := B.bytes
  have hr := B.returns
  have hts := atoms_spec (ws := wsX3_requireSet) B.pre
  have hown : s.vm.findClass RX3 = some m.cls := findClass_of_methodNamed B.named
  have hlocks := B.notSynchronized
  have hK := hE.1
  have hw0 := hts (.classLink RX3 70 "java/lang/IllegalArgumentException") (List.mem_of_getElem? (i := 1) rfl)
  have hw1 := hts (.initialized "java/lang/IllegalArgumentException") (List.mem_of_getElem? (i := 2) rfl)
  have hw2 := hts (.fieldLink RX3 19 "BeliefReviser" "base" "LBeliefReviser$Base;") (List.mem_of_getElem? (i := 3) rfl)
  have hw3 : ∀ w ∈ u_ws RX3 TX3 3, w ∈ wsX3_requireSet := by decide +kernel
  subst hH0
  have hP : va_P G vwCl [(x, .inr (3, [.ref xp, .ref xb, .ref xm])), (xp, .inr (2, [.ref ap, .int (nI pn)])), (ap, .inl (cI, 12, .inl pf)), (xb, .inr (0, [.ref as, .ref ar, .ref am, .int (nI bn)])), (as, .inl (cI, 10, .inl bs)), (ar, .inl (cI, 10, .inl br)), (am, .inl (cI, 1024, .inl mt)), (xm, .inr (1, [.ref al, .ref ak])), (al, .inl (cI, 16, .inl lv)), (ak, .inl (cI, 16, .inl ks))] s.heap := hP
  have hl := lv_entry ([.ref x, .int k]) (n := 2) (Nat.le_of_ble_eq_true rfl)
  rw [lg_entry_eq]
  generalize (lg_sl ([.ref x, .int k]) ++ List.replicate (2 - (lg_sl ([.ref x, .int k])).length) Slot.unset).toArray = ls at hl ⊢
  have hl : lv_has ls 2 [(0, .ref x), (1, .int k)] := hl
  refine lv_iload_n (pc := 0) hx hb dX3_requireSet_0 rfl (lv_at hl 1 rfl) ?_
  refine lv_if_lt (pc := 1) (tgt := 15) hx hb dX3_requireSet_1 (by decide) (fun c1_1 => ?_) (fun c1_1 => ?_)
  · have h1 := c1_1
    exact bv_throw hx hb hst hX hown hw0 hw1 (hX.1 (216, "the set has what is no sentence of the base") (List.mem_of_getElem? (i := 13) rfl)) (hX.2.1 (74, "java/lang/IllegalArgumentException") (List.mem_of_getElem? (i := 2) rfl)) (fun w hw => hts w (bv_sub2_X3_requireSet w hw)) (by decide +kernel) (by decide +kernel) (by decide +kernel) (hl.1.trans hml.symm) dX3_requireSet_15 dX3_requireSet_18 dX3_requireSet_19 dX3_requireSet_21 dX3_requireSet_24 htab (by decide) (Nat.le_of_ble_eq_true rfl) (Nat.le_of_ble_eq_true rfl) (Nat.le_of_ble_eq_true rfl) hlocks (⟨rfl, fun h => Int32.not_lt.mpr h.1 h1⟩) (by decide) (by decide)
  · have h1 := c1_1
    refine lv_iload_n (pc := 4) hx hb dX3_requireSet_4 rfl (lv_at hl 1 rfl) ?_
    refine lv_aload_n (pc := 5) hx hb dX3_requireSet_5 rfl (lv_at hl 0 rfl) ?_
    refine va_get (pc := 6) (D := G) (ci := 3) (v := .ref xb) (C := RX3) (T := TX3) (N := 3) hx hb hts hw3 hown hK hP 0 rfl rfl 1 (by decide) hw2 (fun _ h9 => h9) rfl dX3_requireSet_6 ?_
    have hPc := hP.sub (ws' := [(xb, .inr (0, [.ref as, .ref ar, .ref am, .int (nI bn)])), (as, .inl (cI, 10, .inl bs)), (ar, .inl (cI, 10, .inl br)), (am, .inl (cI, 1024, .inl mt))]) [3, 4, 5, 6] rfl
    refine bv_cSi (pc := 9) (E' := (nI (2 ^ bn))) (va_runV (As := []) (rest := [.int k]) ⟨hx, hb, hml, hown, hts⟩ (m_X0_countSets l G cI xb as ar am bn bs br mt (by first | assumption | omega)) (cwV 0 hts gX3_requireSet_X0_countSets rfl rfl rfl (by decide +kernel) ⟨Nat.le_of_ble_eq_true rfl, Nat.le_of_ble_eq_true rfl⟩) (bv_pV hE hPc (va_recv hK hP (ci := 0) (q0 := 3) rfl rfl)) rfl rfl hl.1 rfl (lv_room (Nat.le_of_ble_eq_true rfl)) dX3_requireSet_9 ⟨Nat.le_of_ble_eq_true rfl, Nat.le_of_ble_eq_true rfl⟩) rfl ?_
    refine lv_icmp_lt (pc := 12) (tgt := 25) hx hb dX3_requireSet_12 (by decide) (fun c12_4 => ?_) (fun c12_4 => ?_)
    · have h2 := c12_4
      refine vx_ret ?_
      refine W.widen (k := 1) (n := 6) (by decide) (by decide) ?_
      exact W.vret (pc := 25) hx hb hr (fun T8 hT8 hW8 => ⟨⟨(), rfl, ⟨Int32.not_lt.mp h1, h2⟩, hT8⟩, (va_S.rf (A := fun _ => False)).F hT8⟩) (fun _ h => nomatch h) dX3_requireSet_25
    · have h2 := c12_4
      exact bv_throw hx hb hst hX hown hw0 hw1 (hX.1 (216, "the set has what is no sentence of the base") (List.mem_of_getElem? (i := 13) rfl)) (hX.2.1 (74, "java/lang/IllegalArgumentException") (List.mem_of_getElem? (i := 2) rfl)) (fun w hw => hts w (bv_sub2_X3_requireSet w hw)) (by decide +kernel) (by decide +kernel) (by decide +kernel) (hl.1.trans hml.symm) dX3_requireSet_15 dX3_requireSet_18 dX3_requireSet_19 dX3_requireSet_21 dX3_requireSet_24 htab (by decide) (Nat.le_of_ble_eq_true rfl) (Nat.le_of_ble_eq_true rfl) (Nat.le_of_ble_eq_true rfl) hlocks (⟨rfl, fun h => h2 h.2⟩) (by decide) (by decide)
theorem bv_sub0_X3_requireFound : ∀ w ∈ (vx_atS RX3 161 "java/lang/IndexOutOfBoundsException" bv_nms).filter goodWord, w ∈ wsX3_requireFound := by decide +kernel
set_option maxHeartbeats 4000000 in
set_option maxRecDepth 100000 in
theorem m_X3_requireFound (l : Launch) (hst : l.stackTraces = false) (G : va_G) (cI : ClassId) (H0 : Heap) (x xp ap pn xb as ar am bn xm al ak : Nat) (pf bs br mt lv ks : Nat → Int32) (b : Bool) (g ix : Int32) (hn : bn ≤ 10) (hM : ∀ t, t < 2 ^ bn → mt t = bv_wi bs t bn) : vx_Met l yX3_requireFound wsX3_requireFound ({ frames := 6, cells := 1, slots := 6, locals := 115 }) (bv_PX [.ref x, .int (bv_b b), .int g, .int ix] G cI (fun H => H = H0 ∧ va_P G vwCl [(x, .inr (3, [.ref xp, .ref xb, .ref xm])), (xp, .inr (2, [.ref ap, .int (nI pn)])), (ap, .inl (cI, 12, .inl pf)), (xb, .inr (0, [.ref as, .ref ar, .ref am, .int (nI bn)])), (as, .inl (cI, 10, .inl bs)), (ar, .inl (cI, 10, .inl br)), (am, .inl (cI, 1024, .inl mt)), (xm, .inr (1, [.ref al, .ref ak])), (al, .inl (cI, 16, .inl lv)), (ak, .inl (cI, 16, .inl ks))] H)) (va_Qi (fun (r9 : Int32) (_ : Unit) => r9 = (bv_oI (bv_fnd (bv_is b bs bn g) ix (2 ^ bn))) ∧ ((bv_fnd (bv_is b bs bn g) ix (2 ^ bn)) ≠ none)) (fun _ (T9 : State) => T9.heap = H0) (fun _ => False)) (vx_X (fun _ : Unit => True) (fun (X9 : String) _ _ => X9 = "java/lang/IndexOutOfBoundsException" ∧ ¬ ((bv_fnd (bv_is b bs bn g) ix (2 ^ bn)) ≠ none)) (fun _ => False)) 1 6 (fun _ => False) := by
  refine vx_ofW (cc := cX3_requireFound) (maxL := 5) (ret := (some .int)) (by decide) rfl ?_
  intro p e s m args below meth c s₁ B hml htab hv
  obtain ⟨rfl, ⟨hH0, hP⟩, hE, hX⟩ := hv
  have hx := B.exec
  have hb := B.bytes
  have hr := B.returns
  have hts := atoms_spec (ws := wsX3_requireFound) B.pre
  have hown : s.vm.findClass RX3 = some m.cls := findClass_of_methodNamed B.named
  have hlocks := B.notSynchronized
  have hK := hE.1
  have hw0 := hts (.fieldLink RX3 19 "BeliefReviser" "base" "LBeliefReviser$Base;") (List.mem_of_getElem? (i := 3) rfl)
  have hw1 : ∀ w ∈ u_ws RX3 TX3 3, w ∈ wsX3_requireFound := by decide +kernel
  have hw2 := hts (.classLink RX3 157 "java/lang/IndexOutOfBoundsException") (List.mem_of_getElem? (i := 1) rfl)
  have hw3 := hts (.initialized "java/lang/IndexOutOfBoundsException") (List.mem_of_getElem? (i := 2) rfl)
  subst hH0
  have hP : va_P G vwCl [(x, .inr (3, [.ref xp, .ref xb, .ref xm])), (xp, .inr (2, [.ref ap, .int (nI pn)])), (ap, .inl (cI, 12, .inl pf)), (xb, .inr (0, [.ref as, .ref ar, .ref am, .int (nI bn)])), (as, .inl (cI, 10, .inl bs)), (ar, .inl (cI, 10, .inl br)), (am, .inl (cI, 1024, .inl mt)), (xm, .inr (1, [.ref al, .ref ak])), (al, .inl (cI, 16, .inl lv)), (ak, .inl (cI, 16, .inl ks))] s.heap := hP
  have hl := lv_entry ([.ref x, .int (bv_b b), .int g, .int ix]) (n := 5) (Nat.le_of_ble_eq_true rfl)
  rw [lg_entry_eq]
  generalize (lg_sl ([.ref x, .int (bv_b b), .int g, .int ix]) ++ List.replicate (5 - (lg_sl ([.ref x, .int (bv_b b), .int g, .int ix])).length) Slot.unset).toArray = ls at hl ⊢
  have hl : lv_has ls 5 [(0, .ref x), (1, .int (bv_b b)), (2, .int g), (3, .int ix)] := hl
  refine lv_aload_n (pc := 0) hx hb dX3_requireFound_0 rfl (lv_at hl 0 rfl) ?_
  refine va_get (pc := 1) (D := G) (ci := 3) (v := .ref xb) (C := RX3) (T := TX3) (N := 3) hx hb hts hw1 hown hK hP 0 rfl rfl 1 (by decide) hw0 (fun _ h9 => h9) rfl dX3_requireFound_1 ?_
  refine lv_iload_n (pc := 4) hx hb dX3_requireFound_4 rfl (lv_at hl 1 rfl) ?_
  refine lv_iload_n (pc := 5) hx hb dX3_requireFound_5 rfl (lv_at hl 2 rfl) ?_
  refine lv_iload_n (pc := 6) hx hb dX3_requireFound_6 rfl (lv_at hl 3 rfl) ?_
  have hPc := hP.sub (ws' := [(xb, .inr (0, [.ref as, .ref ar, .ref am, .int (nI bn)])), (as, .inl (cI, 10, .inl bs)), (ar, .inl (cI, 10, .inl br)), (am, .inl (cI, 1024, .inl mt))]) [3, 4, 5, 6] rfl
  refine bv_cSi (pc := 7) (E' := (bv_oI (bv_fnd (bv_is b bs bn g) ix (2 ^ bn)))) (va_runV (As := [.int (bv_b b), .int g, .int ix]) (rest := []) ⟨hx, hb, hml, hown, hts⟩ (m_X0_findAt l G cI xb as ar am bn bs br mt b g ix hn hM) (cwV 3 hts gX3_requireFound_X0_findAt rfl rfl rfl (by decide +kernel) ⟨Nat.le_of_ble_eq_true rfl, Nat.le_of_ble_eq_true rfl⟩) (bv_pV hE hPc (va_recv hK hP (ci := 0) (q0 := 3) rfl rfl)) rfl rfl hl.1 rfl (lv_room (Nat.le_of_ble_eq_true rfl)) dX3_requireFound_7 ⟨Nat.le_of_ble_eq_true rfl, Nat.le_of_ble_eq_true rfl⟩) rfl ?_
  refine lv_istore (pc := 10) (lv' := [(4, .int (bv_oI (bv_fnd (bv_is b bs bn g) ix (2 ^ bn)))), (0, .ref x), (1, .int (bv_b b)), (2, .int g), (3, .int ix)]) hx hb dX3_requireFound_10 hl (by decide) rfl (fun ls hl => ?_)
  refine lv_iload (pc := 12) hx hb dX3_requireFound_12 (lv_at hl 0 rfl) ?_
  refine lv_if_ge (pc := 14) (tgt := 27) hx hb dX3_requireFound_14 (by decide) (fun c14_3 => ?_) (fun c14_3 => ?_)
  · have h1 := c14_3
    refine lv_iload (pc := 27) hx hb dX3_requireFound_27 (lv_at hl 0 rfl) ?_
    refine vx_ret ?_
    refine W.widen (k := 1) (n := 6) (by decide) (by decide) ?_
    exact W.iret (pc := 29) (v := (bv_oI (bv_fnd (bv_is b bs bn g) ix (2 ^ bn)))) hx hb hr (fun T8 hT8 hW8 => ⟨⟨(bv_oI (bv_fnd (bv_is b bs bn g) ix (2 ^ bn))), (), rfl, ⟨rfl, fun h => absurd h1 (by rw [h]; decide)⟩, hT8⟩, (va_S.rf (A := fun _ => False)).F hT8⟩) (fun _ h => nomatch h) dX3_requireFound_29
  · have h1 := c14_3
    exact bv_throw hx hb hst hX hown hw2 hw3 (hX.1 (221, "there is none of this number") (List.mem_of_getElem? (i := 14) rfl)) (hX.2.1 (161, "java/lang/IndexOutOfBoundsException") (List.mem_of_getElem? (i := 0) rfl)) (fun w hw => hts w (bv_sub0_X3_requireFound w hw)) (by decide +kernel) (by decide +kernel) (by decide +kernel) (hl.1.trans hml.symm) dX3_requireFound_17 dX3_requireFound_20 dX3_requireFound_21 dX3_requireFound_23 dX3_requireFound_26 htab (by decide) (Nat.le_of_ble_eq_true rfl) (Nat.le_of_ble_eq_true rfl) (Nat.le_of_ble_eq_true rfl) hlocks (⟨rfl, fun h => h1 (bv_oI_ge hn h)⟩) (by decide) (by decide)
