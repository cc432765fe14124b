/-! The face: what each call answers that isn't refused. -/
def bv_join (i p q : Int32) : Int32 := if i = 0 then p &&& q else if i = 1 then p ||| q else if i = 2 then p ||| bv_not q else bv_not (p ^^^ q)
theorem bv_ix2 {i m9 : Int32} {n : Nat} (hm : m9.toInt = n) (h0 : 0 ≤ i) (h1 : i ≤ m9) : ∃ j, j ≤ n ∧ i = nI j := nI_of2 hm (Int32.not_lt.mpr h0) h1
theorem bv_joined_cases {i : Int32} (h : 0 ≤ i ∧ i ≤ 3) : i = 0 ∨ i = 1 ∨ i = 2 ∨ i = 3 := by
  obtain ⟨j, hj, rfl⟩ := bv_ix2 (m9 := 3) (n := 3) (by decide) h.1 h.2
  rcases (show j = 0 ∨ j = 1 ∨ j = 2 ∨ j = 3 by omega) with rfl | rfl | rfl | rfl
  · exact Or.inl rfl
  · exact Or.inr (Or.inl rfl)
  · exact Or.inr (Or.inr (Or.inl rfl))
  · exact Or.inr (Or.inr (Or.inr rfl))
theorem bv_gi0 {k : Nat} (hk : k < 2 ^ 31) {P : Prop} (h : nI k < 0) : P := absurd h (nI_pos hk)

theorem bv_fnd_lt {f : Nat → Bool} {ix : Int32} {N x : Nat} (h : bv_fnd f ix N = some x) : x < N := by
  induction N with
  | zero => cases h
  | succ N ih =>
    rw [bv_fnd] at h
    cases h0 : bv_fnd f ix N with
    | some y => rw [h0] at h; cases h; exact Nat.lt_succ_of_lt (ih h0)
    | none =>
      rw [h0] at h
      by_cases hc : f N = true ∧ nI (bv_cnt f N) = ix
      · simp only [if_pos hc] at h; cases h; exact Nat.lt_succ_self _
      · simp only [if_neg hc] at h; cases h

set_option maxHeartbeats 4000000 in
set_option maxRecDepth 100000 in
theorem m_X3_requireAtom (l : Launch) (G : va_G) (cI : ClassId) (i : Nat) (hi : i < 4) : Met l yX3_requireAtom wsX3_requireAtom ({ frames := 0, cells := 0, slots := 0, locals := 0 }) (bv_PS [.int (nI i)] G cI (fun _ => False) (fun H => va_P G vwCl [] H)) bv_Sv 0 0 (fun _ => False) := by
  refine Met.ofW (cc := cX3_requireAtom) (maxL := 1) (ret := none) (by decide) rfl ?_
  intro p e s m args below meth c s₁ B hml hv
  obtain ⟨rfl, hP, hE, hXA⟩ := hv
  have hx := B.exec
  have hb := B.bytes
  have hr := B.returns
  have hts := atoms_spec (ws := wsX3_requireAtom) B.pre
  have hown : s.vm.findClass RX3 = some m.cls := findClass_of_methodNamed B.named
  have hlocks := B.notSynchronized
  have hK := hE.1
  have hw0 := hts (.fieldLink RX3 37 "BeliefReviser" "ATOM_WORLDS" "[I") (List.mem_of_getElem? (i := 3) rfl)
  have hP : va_P G vwCl [] s.heap := hP
  have hl := lv_entry ([.int (nI i)]) (n := 1) (Nat.le_of_ble_eq_true rfl)
  rw [lg_entry_eq]
  generalize (lg_sl ([.int (nI i)]) ++ List.replicate (1 - (lg_sl ([.int (nI i)])).length) Slot.unset).toArray = ls at hl ⊢
  have hl : lv_has ls 1 [(0, .int (nI i))] := hl
  refine lv_iload_n (pc := 0) hx hb dX3_requireAtom_0 rfl (lv_at hl 0 rfl) ?_
  refine lv_if_lt (pc := 1) (tgt := 12) hx hb dX3_requireAtom_1 (by decide) (fun c1_1 => ?_) (fun c1_1 => ?_)
  · exact bv_gi0 (by omega) c1_1
  · refine lv_iload_n (pc := 4) hx hb dX3_requireAtom_4 rfl (lv_at hl 0 rfl) ?_
    obtain ⟨qA, hZA, hTA⟩ := hXA.narrow (B := fun _ => False) (fun _ h => False.elim h)
    refine va_gets (A := fun _ => False) hx hb hZA va_S.rf hown hw0 (fun _ h9 => h9) dX3_requireAtom_5 ?_
    refine va_tlen (pc := 8) (v := (nI 4)) hx hb hTA va_S.rf rfl dX3_requireAtom_8 ?_
    refine lv_icmp_lt (pc := 9) (tgt := 22) hx hb dX3_requireAtom_9 (by decide) (fun c9_2 => ?_) (fun c9_2 => ?_)
    · exact W.vret (pc := 22) hx hb hr (fun T8 hT8 hW8 => ⟨rfl, hT8⟩) (fun _ h => nomatch h) dX3_requireAtom_22
    · exact absurd (nI_lt hi (by decide)) c9_2
set_option maxHeartbeats 4000000 in
set_option maxRecDepth 100000 in
theorem m_X3_requireRank (l : Launch) (G : va_G) (cI : ClassId) (r : Int32) (hr9 : 1 ≤ r ∧ r ≤ 9) : Met l yX3_requireRank wsX3_requireRank ({ frames := 0, cells := 0, slots := 0, locals := 0 }) (bv_P [.int r] G cI (fun H => va_P G vwCl [] H)) bv_Sv 0 0 (fun _ => False) := by
  refine Met.ofW (cc := cX3_requireRank) (maxL := 1) (ret := none) (by decide) rfl ?_
  intro p e s m args below meth c s₁ B hml hv
  obtain ⟨rfl, hP, hE⟩ := hv
  have hx := B.exec
  have hb := B.bytes
  have hr := B.returns
  have hts := atoms_spec (ws := wsX3_requireRank) B.pre
  have hown : s.vm.findClass RX3 = some m.cls := findClass_of_methodNamed B.named
  have hlocks := B.notSynchronized
  have hK := hE.1
  have hP : va_P G vwCl [] s.heap := hP
  have hl := lv_entry ([.int r]) (n := 1) (Nat.le_of_ble_eq_true rfl)
  rw [lg_entry_eq]
  generalize (lg_sl ([.int r]) ++ List.replicate (1 - (lg_sl ([.int r])).length) Slot.unset).toArray = ls at hl ⊢
  have hl : lv_has ls 1 [(0, .int r)] := hl
  refine lv_iload_n (pc := 0) hx hb dX3_requireRank_0 rfl (lv_at hl 0 rfl) ?_
  refine lv_iconst (pc := 1) (v := 1) hx hb dX3_requireRank_1 (by decide) ?_
  refine lv_icmp_lt (pc := 2) (tgt := 11) hx hb dX3_requireRank_2 (by decide) (fun c2_1 => ?_) (fun c2_1 => ?_)
  · exact absurd hr9.1 (Int32.not_le.mpr c2_1)
  · refine lv_iload_n (pc := 5) hx hb dX3_requireRank_5 rfl (lv_at hl 0 rfl) ?_
    refine lv_bipush (pc := 6) (v := 9) hx hb dX3_requireRank_6 (by decide) ?_
    refine lv_icmp_le (pc := 8) (tgt := 21) hx hb dX3_requireRank_8 (by decide) (fun c8_2 => ?_) (fun c8_2 => ?_)
    · exact W.vret (pc := 21) hx hb hr (fun T8 hT8 hW8 => ⟨rfl, hT8⟩) (fun _ h => nomatch h) dX3_requireRank_21
    · exact absurd hr9.2 c8_2
set_option maxHeartbeats 4000000 in
set_option maxRecDepth 100000 in
theorem m_X3_requirePileRoom (l : Launch) (G : va_G) (cI : ClassId) (x xp ap pn xb as ar am bn xm al ak : Nat) (pf bs br mt lv ks : Nat → Int32) (hp : pn ≤ 12) (h12 : pn < 12) : Met l yX3_requirePileRoom wsX3_requirePileRoom ({ frames := 1, cells := 0, slots := 0, locals := 20 }) (bv_P [.ref x] G cI (fun H => va_P G vwCl [(x, .inr (3, [.ref xp, .ref xb, .ref xm])), (xp, .inr (2, [.ref ap, .int (nI pn)])), (ap, .inl (cI, 12, .inl pf)), (xb, .inr (0, [.ref as, .ref ar, .ref am, .int (nI bn)])), (as, .inl (cI, 10, .inl bs)), (ar, .inl (cI, 10, .inl br)), (am, .inl (cI, 1024, .inl mt)), (xm, .inr (1, [.ref al, .ref ak])), (al, .inl (cI, 16, .inl lv)), (ak, .inl (cI, 16, .inl ks))] H)) bv_Sv 0 0 (fun _ => False) := by
  refine Met.ofW (cc := cX3_requirePileRoom) (maxL := 1) (ret := none) (by decide) rfl ?_
  intro p e s m args below meth c s₁ B hml hv
  obtain ⟨rfl, hP, hE⟩ := hv
  have hx := B.exec
  have hb := B.bytes
  have hr := B.returns
  have hts := atoms_spec (ws := wsX3_requirePileRoom) B.pre
  have hown : s.vm.findClass RX3 = some m.cls := findClass_of_methodNamed B.named
  have hlocks := B.notSynchronized
  have hK := hE.1
  have hw0 := hts (.fieldLink RX3 12 "BeliefReviser" "pile" "LBeliefReviser$Pile;") (List.mem_of_getElem? (i := 3) rfl)
  have hw1 : ∀ w ∈ u_ws RX3 TX3 3, w ∈ wsX3_requirePileRoom := by decide +kernel
  have hP : va_P G vwCl [(x, .inr (3, [.ref xp, .ref xb, .ref xm])), (xp, .inr (2, [.ref ap, .int (nI pn)])), (ap, .inl (cI, 12, .inl pf)), (xb, .inr (0, [.ref as, .ref ar, .ref am, .int (nI bn)])), (as, .inl (cI, 10, .inl bs)), (ar, .inl (cI, 10, .inl br)), (am, .inl (cI, 1024, .inl mt)), (xm, .inr (1, [.ref al, .ref ak])), (al, .inl (cI, 16, .inl lv)), (ak, .inl (cI, 16, .inl ks))] s.heap := hP
  have hl := lv_entry ([.ref x]) (n := 1) (Nat.le_of_ble_eq_true rfl)
  rw [lg_entry_eq]
  generalize (lg_sl ([.ref x]) ++ List.replicate (1 - (lg_sl ([.ref x])).length) Slot.unset).toArray = ls at hl ⊢
  have hl : lv_has ls 1 [(0, .ref x)] := hl
  refine lv_aload_n (pc := 0) hx hb dX3_requirePileRoom_0 rfl (lv_at hl 0 rfl) ?_
  refine va_get (pc := 1) (D := G) (ci := 3) (v := .ref xp) (C := RX3) (T := TX3) (N := 3) hx hb hts hw1 hown hK hP 0 rfl rfl 0 (by decide) hw0 (fun _ h9 => h9) rfl dX3_requirePileRoom_1 ?_
  have hPc := hP.sub (ws' := [(xp, .inr (2, [.ref ap, .int (nI pn)])), (ap, .inl (cI, 12, .inl pf))]) [1, 2] rfl
  refine bv_cSi (pc := 4) (E' := (bv_b (decide (12 ≤ pn)))) (va_runV (As := []) (rest := []) ⟨hx, hb, hml, hown, hts⟩ (m_X2_isFull l G cI xp ap pn pf (by first | assumption | omega)) (cwV 0 hts gX3_requirePileRoom_X2_isFull rfl rfl rfl (by decide +kernel) ⟨Nat.le_of_ble_eq_true rfl, Nat.le_of_ble_eq_true rfl⟩) (bv_pV hE hPc (va_recv hK hP (ci := 2) (q0 := 1) rfl rfl)) rfl rfl hl.1 rfl (lv_room (Nat.le_of_ble_eq_true rfl)) dX3_requirePileRoom_4 ⟨Nat.le_of_ble_eq_true rfl, Nat.le_of_ble_eq_true rfl⟩) rfl ?_
  refine lv_if_eq (pc := 7) (tgt := 20) hx hb dX3_requirePileRoom_7 (by decide) (fun c7_3 => ?_) (fun c7_3 => ?_)
  · exact W.vret (pc := 20) hx hb hr (fun T8 hT8 hW8 => ⟨rfl, hT8⟩) (fun _ h => nomatch h) dX3_requirePileRoom_20
  · exact absurd (of_decide_eq_true (bv_b1.mp c7_3)) (by omega)
set_option maxHeartbeats 4000000 in
set_option maxRecDepth 100000 in
theorem m_X3_requireTop (l : Launch) (G : va_G) (cI : ClassId) (x xp ap pn xb as ar am bn xm al ak : Nat) (pf bs br mt lv ks : Nat → Int32) (hp : pn ≤ 12) (h1 : 1 ≤ pn) : Met l yX3_requireTop wsX3_requireTop ({ frames := 2, cells := 0, slots := 0, locals := 42 }) (bv_P [.ref x] G cI (fun H => va_P G vwCl [(x, .inr (3, [.ref xp, .ref xb, .ref xm])), (xp, .inr (2, [.ref ap, .int (nI pn)])), (ap, .inl (cI, 12, .inl pf)), (xb, .inr (0, [.ref as, .ref ar, .ref am, .int (nI bn)])), (as, .inl (cI, 10, .inl bs)), (ar, .inl (cI, 10, .inl br)), (am, .inl (cI, 1024, .inl mt)), (xm, .inr (1, [.ref al, .ref ak])), (al, .inl (cI, 16, .inl lv)), (ak, .inl (cI, 16, .inl ks))] H)) (vp_Si (fun r9 : Int32 => r9 = (pf (pn - 1)))) 0 0 (fun _ => False) := by
  refine Met.ofW (cc := cX3_requireTop) (maxL := 1) (ret := (some .int)) (by decide) rfl ?_
  intro p e s m args below meth c s₁ B hml hv
  obtain ⟨rfl, hP, hE⟩ := hv
  have hx := B.exec
  have hb := B.bytes
  have hr := B.returns
  have hts := atoms_spec (ws := wsX3_requireTop) B.pre
  have hown : s.vm.findClass RX3 = some m.cls := findClass_of_methodNamed B.named
  have hlocks := B.notSynchronized
  have hK := hE.1
  have hw0 := hts (.fieldLink RX3 12 "BeliefReviser" "pile" "LBeliefReviser$Pile;") (List.mem_of_getElem? (i := 3) rfl)
  have hw1 : ∀ w ∈ u_ws RX3 TX3 3, w ∈ wsX3_requireTop := by decide +kernel
  have hP : va_P G vwCl [(x, .inr (3, [.ref xp, .ref xb, .ref xm])), (xp, .inr (2, [.ref ap, .int (nI pn)])), (ap, .inl (cI, 12, .inl pf)), (xb, .inr (0, [.ref as, .ref ar, .ref am, .int (nI bn)])), (as, .inl (cI, 10, .inl bs)), (ar, .inl (cI, 10, .inl br)), (am, .inl (cI, 1024, .inl mt)), (xm, .inr (1, [.ref al, .ref ak])), (al, .inl (cI, 16, .inl lv)), (ak, .inl (cI, 16, .inl ks))] s.heap := hP
  have hl := lv_entry ([.ref x]) (n := 1) (Nat.le_of_ble_eq_true rfl)
  rw [lg_entry_eq]
  generalize (lg_sl ([.ref x]) ++ List.replicate (1 - (lg_sl ([.ref x])).length) Slot.unset).toArray = ls at hl ⊢
  have hl : lv_has ls 1 [(0, .ref x)] := hl
  refine lv_aload_n (pc := 0) hx hb dX3_requireTop_0 rfl (lv_at hl 0 rfl) ?_
  refine va_get (pc := 1) (D := G) (ci := 3) (v := .ref xp) (C := RX3) (T := TX3) (N := 3) hx hb hts hw1 hown hK hP 0 rfl rfl 0 (by decide) hw0 (fun _ h9 => h9) rfl dX3_requireTop_1 ?_
  have hPc := hP.sub (ws' := [(xp, .inr (2, [.ref ap, .int (nI pn)])), (ap, .inl (cI, 12, .inl pf))]) [1, 2] rfl
  refine bv_cSi (pc := 4) (E' := (nI pn)) (va_runV (As := []) (rest := []) ⟨hx, hb, hml, hown, hts⟩ (m_X2_count l G cI xp ap pn pf ) (cwV 0 hts gX3_requireTop_X2_count rfl rfl rfl (by decide +kernel) ⟨Nat.le_of_ble_eq_true rfl, Nat.le_of_ble_eq_true rfl⟩) (bv_pV hE hPc (va_recv hK hP (ci := 2) (q0 := 1) rfl rfl)) rfl rfl hl.1 rfl (lv_room (Nat.le_of_ble_eq_true rfl)) dX3_requireTop_4 ⟨Nat.le_of_ble_eq_true rfl, Nat.le_of_ble_eq_true rfl⟩) rfl ?_
  refine lv_iconst (pc := 7) (v := 1) hx hb dX3_requireTop_7 (by decide) ?_
  refine lv_icmp_ge (pc := 8) (tgt := 21) hx hb dX3_requireTop_8 (by decide) (fun c8_3 => ?_) (fun c8_3 => ?_)
  · refine lv_aload_n (pc := 21) hx hb dX3_requireTop_21 rfl (lv_at hl 0 rfl) ?_
    refine va_get (pc := 22) (D := G) (ci := 3) (v := .ref xp) (C := RX3) (T := TX3) (N := 3) hx hb hts hw1 hown hK hP 0 rfl rfl 0 (by decide) hw0 (fun _ h9 => h9) rfl dX3_requireTop_22 ?_
    refine lv_iconst (pc := 25) (v := 0) hx hb dX3_requireTop_25 (by decide) ?_
    have hPc := hP.sub (ws' := [(xp, .inr (2, [.ref ap, .int (nI pn)])), (ap, .inl (cI, 12, .inl pf))]) [1, 2] rfl
    refine bv_cSi (pc := 26) (E' := (pf (pn - 1 - 0))) (va_runV (As := [.int 0]) (rest := []) ⟨hx, hb, hml, hown, hts⟩ (m_X2_below l G cI xp ap pn pf 0 (by first | assumption | omega) (by first | assumption | omega)) (cwV 1 hts gX3_requireTop_X2_below rfl rfl rfl (by decide +kernel) ⟨Nat.le_of_ble_eq_true rfl, Nat.le_of_ble_eq_true rfl⟩) (bv_pV hE hPc (va_recv hK hP (ci := 2) (q0 := 1) rfl rfl)) rfl rfl hl.1 rfl (lv_room (Nat.le_of_ble_eq_true rfl)) dX3_requireTop_26 ⟨Nat.le_of_ble_eq_true rfl, Nat.le_of_ble_eq_true rfl⟩) rfl ?_
    exact W.iret (pc := 29) (v := (pf (pn - 1 - 0))) hx hb hr (fun T8 hT8 hW8 => ⟨(pf (pn - 1 - 0)), rfl, (by rw [Nat.sub_zero]), hT8⟩) (fun _ h => nomatch h) dX3_requireTop_29
  · exact absurd (show nI 1 ≤ nI pn from nI_le h1 (by omega)) c8_3
set_option maxHeartbeats 4000000 in
set_option maxRecDepth 100000 in
theorem m_X3_requireTwo (l : Launch) (G : va_G) (cI : ClassId) (x xp ap pn xb as ar am bn xm al ak : Nat) (pf bs br mt lv ks : Nat → Int32) (hp : pn ≤ 12) (h2 : 2 ≤ pn) : Met l yX3_requireTwo wsX3_requireTwo ({ frames := 1, cells := 0, slots := 0, locals := 20 }) (bv_P [.ref x] G cI (fun H => va_P G vwCl [(x, .inr (3, [.ref xp, .ref xb, .ref xm])), (xp, .inr (2, [.ref ap, .int (nI pn)])), (ap, .inl (cI, 12, .inl pf)), (xb, .inr (0, [.ref as, .ref ar, .ref am, .int (nI bn)])), (as, .inl (cI, 10, .inl bs)), (ar, .inl (cI, 10, .inl br)), (am, .inl (cI, 1024, .inl mt)), (xm, .inr (1, [.ref al, .ref ak])), (al, .inl (cI, 16, .inl lv)), (ak, .inl (cI, 16, .inl ks))] H)) bv_Sv 0 0 (fun _ => False) := by
  refine Met.ofW (cc := cX3_requireTwo) (maxL := 1) (ret := none) (by decide) rfl ?_
  intro p e s m args below meth c s₁ B hml hv
  obtain ⟨rfl, hP, hE⟩ := hv
  have hx := B.exec
  have hb := B.bytes
  have hr := B.returns
  have hts := atoms_spec (ws := wsX3_requireTwo) B.pre
  have hown : s.vm.findClass RX3 = some m.cls := findClass_of_methodNamed B.named
  have hlocks := B.notSynchronized
  have hK := hE.1
  have hw0 := hts (.fieldLink RX3 12 "BeliefReviser" "pile" "LBeliefReviser$Pile;") (List.mem_of_getElem? (i := 3) rfl)
  have hw1 : ∀ w ∈ u_ws RX3 TX3 3, w ∈ wsX3_requireTwo := by decide +kernel
  have hP : va_P G vwCl [(x, .inr (3, [.ref xp, .ref xb, .ref xm])), (xp, .inr (2, [.ref ap, .int (nI pn)])), (ap, .inl (cI, 12, .inl pf)), (xb, .inr (0, [.ref as, .ref ar, .ref am, .int (nI bn)])), (as, .inl (cI, 10, .inl bs)), (ar, .inl (cI, 10, .inl br)), (am, .inl (cI, 1024, .inl mt)), (xm, .inr (1, [.ref al, .ref ak])), (al, .inl (cI, 16, .inl lv)), (ak, .inl (cI, 16, .inl ks))] s.heap := hP
  have hl := lv_entry ([.ref x]) (n := 1) (Nat.le_of_ble_eq_true rfl)
  rw [lg_entry_eq]
  generalize (lg_sl ([.ref x]) ++ List.replicate (1 - (lg_sl ([.ref x])).length) Slot.unset).toArray = ls at hl ⊢
  have hl : lv_has ls 1 [(0, .ref x)] := hl
  refine lv_aload_n (pc := 0) hx hb dX3_requireTwo_0 rfl (lv_at hl 0 rfl) ?_
  refine va_get (pc := 1) (D := G) (ci := 3) (v := .ref xp) (C := RX3) (T := TX3) (N := 3) hx hb hts hw1 hown hK hP 0 rfl rfl 0 (by decide) hw0 (fun _ h9 => h9) rfl dX3_requireTwo_1 ?_
  have hPc := hP.sub (ws' := [(xp, .inr (2, [.ref ap, .int (nI pn)])), (ap, .inl (cI, 12, .inl pf))]) [1, 2] rfl
  refine bv_cSi (pc := 4) (E' := (nI pn)) (va_runV (As := []) (rest := []) ⟨hx, hb, hml, hown, hts⟩ (m_X2_count l G cI xp ap pn pf ) (cwV 0 hts gX3_requireTwo_X2_count rfl rfl rfl (by decide +kernel) ⟨Nat.le_of_ble_eq_true rfl, Nat.le_of_ble_eq_true rfl⟩) (bv_pV hE hPc (va_recv hK hP (ci := 2) (q0 := 1) rfl rfl)) rfl rfl hl.1 rfl (lv_room (Nat.le_of_ble_eq_true rfl)) dX3_requireTwo_4 ⟨Nat.le_of_ble_eq_true rfl, Nat.le_of_ble_eq_true rfl⟩) rfl ?_
  refine lv_iconst (pc := 7) (v := 2) hx hb dX3_requireTwo_7 (by decide) ?_
  refine lv_icmp_ge (pc := 8) (tgt := 21) hx hb dX3_requireTwo_8 (by decide) (fun c8_3 => ?_) (fun c8_3 => ?_)
  · exact W.vret (pc := 21) hx hb hr (fun T8 hT8 hW8 => ⟨rfl, hT8⟩) (fun _ h => nomatch h) dX3_requireTwo_21
  · exact absurd (show nI 2 ≤ nI pn from nI_le h2 (by omega)) c8_3
set_option maxHeartbeats 4000000 in
set_option maxRecDepth 100000 in
theorem m_X3_requireSet (l : Launch) (G : va_G) (cI : ClassId) (x xp ap pn xb as ar am bn xm al ak : Nat) (pf bs br mt lv ks : Nat → Int32) (t : Nat) (hn : bn ≤ 10) (ht : t < 2 ^ bn) : Met l yX3_requireSet wsX3_requireSet ({ frames := 1, cells := 0, slots := 0, locals := 20 }) (bv_P [.ref x, .int (nI t)] G cI (fun H => va_P G vwCl [(x, .inr (3, [.ref xp, .ref xb, .ref xm])), (xp, .inr (2, [.ref ap, .int (nI pn)])), (ap, .inl (cI, 12, .inl pf)), (xb, .inr (0, [.ref as, .ref ar, .ref am, .int (nI bn)])), (as, .inl (cI, 10, .inl bs)), (ar, .inl (cI, 10, .inl br)), (am, .inl (cI, 1024, .inl mt)), (xm, .inr (1, [.ref al, .ref ak])), (al, .inl (cI, 16, .inl lv)), (ak, .inl (cI, 16, .inl ks))] H)) bv_Sv 0 0 (fun _ => False) := by
  refine Met.ofW (cc := cX3_requireSet) (maxL := 2) (ret := none) (by decide) rfl ?_
  intro p e s m args below meth c s₁ B hml hv
  obtain ⟨rfl, hP, hE⟩ := hv
  have hx := B.exec
  have hb := B.bytes
  have hr := B.returns
  have hts := atoms_spec (ws := wsX3_requireSet) B.pre
  have hown : s.vm.findClass RX3 = some m.cls := findClass_of_methodNamed B.named
  have hlocks := B.notSynchronized
  have hK := hE.1
  have hw0 := hts (.fieldLink RX3 19 "BeliefReviser" "base" "LBeliefReviser$Base;") (List.mem_of_getElem? (i := 3) rfl)
  have hw1 : ∀ w ∈ u_ws RX3 TX3 3, w ∈ wsX3_requireSet := by decide +kernel
  have hP : va_P G vwCl [(x, .inr (3, [.ref xp, .ref xb, .ref xm])), (xp, .inr (2, [.ref ap, .int (nI pn)])), (ap, .inl (cI, 12, .inl pf)), (xb, .inr (0, [.ref as, .ref ar, .ref am, .int (nI bn)])), (as, .inl (cI, 10, .inl bs)), (ar, .inl (cI, 10, .inl br)), (am, .inl (cI, 1024, .inl mt)), (xm, .inr (1, [.ref al, .ref ak])), (al, .inl (cI, 16, .inl lv)), (ak, .inl (cI, 16, .inl ks))] s.heap := hP
  have hl := lv_entry ([.ref x, .int (nI t)]) (n := 2) (Nat.le_of_ble_eq_true rfl)
  rw [lg_entry_eq]
  generalize (lg_sl ([.ref x, .int (nI t)]) ++ List.replicate (2 - (lg_sl ([.ref x, .int (nI t)])).length) Slot.unset).toArray = ls at hl ⊢
  have hl : lv_has ls 2 [(0, .ref x), (1, .int (nI t))] := hl
  have hp10 := bv_p10 hn
  refine lv_iload_n (pc := 0) hx hb dX3_requireSet_0 rfl (lv_at hl 1 rfl) ?_
  refine lv_if_lt (pc := 1) (tgt := 15) hx hb dX3_requireSet_1 (by decide) (fun c1_1 => ?_) (fun c1_1 => ?_)
  · exact bv_gi0 (by omega) c1_1
  · refine lv_iload_n (pc := 4) hx hb dX3_requireSet_4 rfl (lv_at hl 1 rfl) ?_
    refine lv_aload_n (pc := 5) hx hb dX3_requireSet_5 rfl (lv_at hl 0 rfl) ?_
    refine va_get (pc := 6) (D := G) (ci := 3) (v := .ref xb) (C := RX3) (T := TX3) (N := 3) hx hb hts hw1 hown hK hP 0 rfl rfl 1 (by decide) hw0 (fun _ h9 => h9) rfl dX3_requireSet_6 ?_
    have hPc := hP.sub (ws' := [(xb, .inr (0, [.ref as, .ref ar, .ref am, .int (nI bn)])), (as, .inl (cI, 10, .inl bs)), (ar, .inl (cI, 10, .inl br)), (am, .inl (cI, 1024, .inl mt))]) [3, 4, 5, 6] rfl
    refine bv_cSi (pc := 9) (E' := (nI (2 ^ bn))) (va_runV (As := []) (rest := [.int (nI t)]) ⟨hx, hb, hml, hown, hts⟩ (m_X0_countSets l G cI xb as ar am bn bs br mt (by first | assumption | omega)) (cwV 0 hts gX3_requireSet_X0_countSets rfl rfl rfl (by decide +kernel) ⟨Nat.le_of_ble_eq_true rfl, Nat.le_of_ble_eq_true rfl⟩) (bv_pV hE hPc (va_recv hK hP (ci := 0) (q0 := 3) rfl rfl)) rfl rfl hl.1 rfl (lv_room (Nat.le_of_ble_eq_true rfl)) dX3_requireSet_9 ⟨Nat.le_of_ble_eq_true rfl, Nat.le_of_ble_eq_true rfl⟩) rfl ?_
    refine lv_icmp_lt (pc := 12) (tgt := 25) hx hb dX3_requireSet_12 (by decide) (fun c12_4 => ?_) (fun c12_4 => ?_)
    · exact W.vret (pc := 25) hx hb hr (fun T8 hT8 hW8 => ⟨rfl, hT8⟩) (fun _ h => nomatch h) dX3_requireSet_25
    · exact absurd (nI_lt ht (by omega)) c12_4
set_option maxHeartbeats 4000000 in
set_option maxRecDepth 100000 in
theorem m_X3_requireFound (l : Launch) (G : va_G) (cI : ClassId) (x xp ap pn xb as ar am bn xm al ak : Nat) (pf bs br mt lv ks : Nat → Int32) (b : Bool) (g ix : Int32) (y9 : Nat) (hn : bn ≤ 10) (hM : ∀ t, t < 2 ^ bn → mt t = bv_wi bs t bn) (hf : bv_fnd (bv_is b bs bn g) ix (2 ^ bn) = some y9) : Met l yX3_requireFound wsX3_requireFound ({ frames := 5, cells := 0, slots := 0, locals := 115 }) (bv_P [.ref x, .int (bv_b b), .int g, .int ix] G cI (fun H => va_P G vwCl [(x, .inr (3, [.ref xp, .ref xb, .ref xm])), (xp, .inr (2, [.ref ap, .int (nI pn)])), (ap, .inl (cI, 12, .inl pf)), (xb, .inr (0, [.ref as, .ref ar, .ref am, .int (nI bn)])), (as, .inl (cI, 10, .inl bs)), (ar, .inl (cI, 10, .inl br)), (am, .inl (cI, 1024, .inl mt)), (xm, .inr (1, [.ref al, .ref ak])), (al, .inl (cI, 16, .inl lv)), (ak, .inl (cI, 16, .inl ks))] H)) (vp_Si (fun r9 : Int32 => r9 = (nI y9))) 0 0 (fun _ => False) := by
  refine Met.ofW (cc := cX3_requireFound) (maxL := 5) (ret := (some .int)) (by decide) rfl ?_
  intro p e s m args below meth c s₁ B hml hv
  obtain ⟨rfl, hP, hE⟩ := hv
  have hx := B.exec
  have hb := B.bytes
  have hr := B.returns
  have hts := atoms_spec (ws := wsX3_requireFound) B.pre
  have hown : s.vm.findClass RX3 = some m.cls := findClass_of_methodNamed B.named
  have hlocks := B.notSynchronized
  have hK := hE.1
  have hw0 := hts (.fieldLink RX3 19 "BeliefReviser" "base" "LBeliefReviser$Base;") (List.mem_of_getElem? (i := 3) rfl)
  have hw1 : ∀ w ∈ u_ws RX3 TX3 3, w ∈ wsX3_requireFound := by decide +kernel
  have hP : va_P G vwCl [(x, .inr (3, [.ref xp, .ref xb, .ref xm])), (xp, .inr (2, [.ref ap, .int (nI pn)])), (ap, .inl (cI, 12, .inl pf)), (xb, .inr (0, [.ref as, .ref ar, .ref am, .int (nI bn)])), (as, .inl (cI, 10, .inl bs)), (ar, .inl (cI, 10, .inl br)), (am, .inl (cI, 1024, .inl mt)), (xm, .inr (1, [.ref al, .ref ak])), (al, .inl (cI, 16, .inl lv)), (ak, .inl (cI, 16, .inl ks))] s.heap := hP
  have hl := lv_entry ([.ref x, .int (bv_b b), .int g, .int ix]) (n := 5) (Nat.le_of_ble_eq_true rfl)
  rw [lg_entry_eq]
  generalize (lg_sl ([.ref x, .int (bv_b b), .int g, .int ix]) ++ List.replicate (5 - (lg_sl ([.ref x, .int (bv_b b), .int g, .int ix])).length) Slot.unset).toArray = ls at hl ⊢
  have hl : lv_has ls 5 [(0, .ref x), (1, .int (bv_b b)), (2, .int g), (3, .int ix)] := hl
  have hp10 := bv_p10 hn
  have hy9 := bv_fnd_lt hf
  refine lv_aload_n (pc := 0) hx hb dX3_requireFound_0 rfl (lv_at hl 0 rfl) ?_
  refine va_get (pc := 1) (D := G) (ci := 3) (v := .ref xb) (C := RX3) (T := TX3) (N := 3) hx hb hts hw1 hown hK hP 0 rfl rfl 1 (by decide) hw0 (fun _ h9 => h9) rfl dX3_requireFound_1 ?_
  refine lv_iload_n (pc := 4) hx hb dX3_requireFound_4 rfl (lv_at hl 1 rfl) ?_
  refine lv_iload_n (pc := 5) hx hb dX3_requireFound_5 rfl (lv_at hl 2 rfl) ?_
  refine lv_iload_n (pc := 6) hx hb dX3_requireFound_6 rfl (lv_at hl 3 rfl) ?_
  have hPc := hP.sub (ws' := [(xb, .inr (0, [.ref as, .ref ar, .ref am, .int (nI bn)])), (as, .inl (cI, 10, .inl bs)), (ar, .inl (cI, 10, .inl br)), (am, .inl (cI, 1024, .inl mt))]) [3, 4, 5, 6] rfl
  refine bv_cSi (pc := 7) (E' := (nI y9)) (va_runV (As := [.int (bv_b b), .int g, .int ix]) (rest := []) ⟨hx, hb, hml, hown, hts⟩ (m_X0_findAt l G cI xb as ar am bn bs br mt b g ix hn hM) (cwV 3 hts gX3_requireFound_X0_findAt rfl rfl rfl (by decide +kernel) ⟨Nat.le_of_ble_eq_true rfl, Nat.le_of_ble_eq_true rfl⟩) (bv_pV hE hPc (va_recv hK hP (ci := 0) (q0 := 3) rfl rfl)) rfl rfl hl.1 rfl (lv_room (Nat.le_of_ble_eq_true rfl)) dX3_requireFound_7 ⟨Nat.le_of_ble_eq_true rfl, Nat.le_of_ble_eq_true rfl⟩) (by rw [hf]; rfl) ?_
  refine lv_istore (pc := 10) (lv' := [(4, .int (nI y9)), (0, .ref x), (1, .int (bv_b b)), (2, .int g), (3, .int ix)]) hx hb dX3_requireFound_10 hl (by decide) rfl (fun ls hl => ?_)
  refine lv_iload (pc := 12) hx hb dX3_requireFound_12 (lv_at hl 0 rfl) ?_
  refine lv_if_ge (pc := 14) (tgt := 27) hx hb dX3_requireFound_14 (by decide) (fun c14_3 => ?_) (fun c14_3 => ?_)
  · refine lv_iload (pc := 27) hx hb dX3_requireFound_27 (lv_at hl 0 rfl) ?_
    exact W.iret (pc := 29) (v := (nI y9)) hx hb hr (fun T8 hT8 hW8 => ⟨(nI y9), rfl, rfl, hT8⟩) (fun _ h => nomatch h) dX3_requireFound_29
  · exact absurd (nI_pos' (by omega)) c14_3
