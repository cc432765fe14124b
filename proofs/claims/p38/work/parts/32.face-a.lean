set_option maxHeartbeats 4000000 in
set_option maxRecDepth 100000 in
theorem m_X3_joined (l : Launch) (G : va_G) (cI : ClassId) (i a b : Int32) (hi : 0 ≤ i ∧ i ≤ 3) : Met l yX3_joined wsX3_joined ({ frames := 1, cells := 0, slots := 0, locals := 20 }) (bv_P [.int i, .int a, .int b] G cI (fun H => va_P G vwCl [] H)) (vp_Si (fun r9 : Int32 => r9 = (bv_join i a b))) 0 0 (fun _ => False) := by
  refine Met.ofW (cc := cX3_joined) (maxL := 3) (ret := (some .int)) (by decide) rfl ?_
  intro p e s m args below meth c s₁ B hml hv
  obtain ⟨rfl, hP, hE⟩ := hv
  have hx := B.exec
  have hb := B.bytes
  have hr := B.returns
  have hts := atoms_spec (ws := wsX3_joined) B.pre
  have hown : s.vm.findClass RX3 = some m.cls := findClass_of_methodNamed B.named
  have hlocks := B.notSynchronized
  have hK := hE.1
  have hw0 := hts (.static yX3_not) (List.mem_of_getElem? (i := 2) rfl)
  have hP : va_P G vwCl [] s.heap := hP
  have hl := lv_entry ([.int i, .int a, .int b]) (n := 3) (Nat.le_of_ble_eq_true rfl)
  rw [lg_entry_eq]
  generalize (lg_sl ([.int i, .int a, .int b]) ++ List.replicate (3 - (lg_sl ([.int i, .int a, .int b])).length) Slot.unset).toArray = ls at hl ⊢
  have hl : lv_has ls 3 [(0, .int i), (1, .int a), (2, .int b)] := hl
  refine lv_iload_n (pc := 0) hx hb dX3_joined_0 rfl (lv_at hl 0 rfl) ?_
  rcases bv_joined_cases hi with rfl | rfl | rfl | rfl
  · refine lv_tableIn (pc := 1) (off := 27) (tgt := 28) hx hb dX3_joined_1 (by decide) (by decide) rfl (by decide) ?_
    refine lv_iload_n (pc := 28) hx hb dX3_joined_28 rfl (lv_at hl 1 rfl) ?_
    refine lv_iload_n (pc := 29) hx hb dX3_joined_29 rfl (lv_at hl 2 rfl) ?_
    refine lv_iand (pc := 30) hx hb dX3_joined_30 ?_
    exact W.iret (pc := 31) (v := (a &&& b)) hx hb hr (fun T8 hT8 hW8 => ⟨(a &&& b), rfl, (by simp [bv_join]), hT8⟩) (fun _ h => nomatch h) dX3_joined_31
  · refine lv_tableIn (pc := 1) (off := 31) (tgt := 32) hx hb dX3_joined_1 (by decide) (by decide) rfl (by decide) ?_
    refine lv_iload_n (pc := 32) hx hb dX3_joined_32 rfl (lv_at hl 1 rfl) ?_
    refine lv_iload_n (pc := 33) hx hb dX3_joined_33 rfl (lv_at hl 2 rfl) ?_
    refine lv_ior (pc := 34) hx hb dX3_joined_34 ?_
    exact W.iret (pc := 35) (v := (a ||| b)) hx hb hr (fun T8 hT8 hW8 => ⟨(a ||| b), rfl, (by simp [bv_join]), hT8⟩) (fun _ h => nomatch h) dX3_joined_35
  · refine lv_tableIn (pc := 1) (off := 35) (tgt := 36) hx hb dX3_joined_1 (by decide) (by decide) rfl (by decide) ?_
    refine lv_iload_n (pc := 36) hx hb dX3_joined_36 rfl (lv_at hl 1 rfl) ?_
    refine lv_iload_n (pc := 37) hx hb dX3_joined_37 rfl (lv_at hl 2 rfl) ?_
    have hPc := hP.sub (ws' := []) [] rfl
    refine bv_cSi (pc := 38) (E' := (bv_not b)) (va_runS (As := [.int b]) (rest := [.int a]) ⟨hx, hb, hml, hown, hts⟩ (m_X3_not l G cI b ) (va_cwS 1 hts gX3_joined_X3_not rfl rfl rfl (by decide +kernel) ⟨Nat.le_of_ble_eq_true rfl, Nat.le_of_ble_eq_true rfl⟩) (bv_pS hE hPc) rfl rfl hl.1 rfl (lv_room (Nat.le_of_ble_eq_true rfl)) dX3_joined_38 ⟨Nat.le_of_ble_eq_true rfl, Nat.le_of_ble_eq_true rfl⟩) rfl ?_
    refine lv_ior (pc := 41) hx hb dX3_joined_41 ?_
    exact W.iret (pc := 42) (v := (a ||| (bv_not b))) hx hb hr (fun T8 hT8 hW8 => ⟨(a ||| (bv_not b)), rfl, (by simp [bv_join]), hT8⟩) (fun _ h => nomatch h) dX3_joined_42
  · refine lv_tableOut (pc := 1) (tgt := 43) hx hb dX3_joined_1 (by decide) (by decide) ?_
    refine lv_iload_n (pc := 43) hx hb dX3_joined_43 rfl (lv_at hl 1 rfl) ?_
    refine lv_iload_n (pc := 44) hx hb dX3_joined_44 rfl (lv_at hl 2 rfl) ?_
    refine lv_ixor (pc := 45) hx hb dX3_joined_45 ?_
    have hPc := hP.sub (ws' := []) [] rfl
    refine bv_cSi (pc := 46) (E' := (bv_not (a ^^^ b))) (va_runS (As := [.int (a ^^^ b)]) (rest := []) ⟨hx, hb, hml, hown, hts⟩ (m_X3_not l G cI (a ^^^ b) ) (va_cwS 1 hts gX3_joined_X3_not rfl rfl rfl (by decide +kernel) ⟨Nat.le_of_ble_eq_true rfl, Nat.le_of_ble_eq_true rfl⟩) (bv_pS hE hPc) rfl rfl hl.1 rfl (lv_room (Nat.le_of_ble_eq_true rfl)) dX3_joined_46 ⟨Nat.le_of_ble_eq_true rfl, Nat.le_of_ble_eq_true rfl⟩) rfl ?_
    exact W.iret (pc := 49) (v := (bv_not (a ^^^ b))) hx hb hr (fun T8 hT8 hW8 => ⟨(bv_not (a ^^^ b)), rfl, (by simp [bv_join]), hT8⟩) (fun _ h => nomatch h) dX3_joined_49
set_option maxHeartbeats 4000000 in
set_option maxRecDepth 100000 in
theorem m_X3_atom (l : Launch) (G : va_G) (cI : ClassId) (sz : Nat) (x xp ap pn xb as ar am bn xm al ak : Nat) (pf bs br mt lv ks : Nat → Int32) (i : Nat) (hp : pn ≤ 12) (hn : bn ≤ 10) (hM : ∀ t, t < 2 ^ bn → mt t = bv_wi bs t bn) (hi : i < 4) (h12 : pn < 12) : Met l yX3_atom wsX3_atom ({ frames := 2, cells := 0, slots := 0, locals := 43 }) (bv_PS [.ref x, .int (nI i)] G cI (va_A [(x, .inr (3, [.ref xp, .ref xb, .ref xm])), (xp, .inr (2, [.ref ap, .int (nI pn)])), (ap, .inl (cI, 12, .inl pf)), (xb, .inr (0, [.ref as, .ref ar, .ref am, .int (nI bn)])), (as, .inl (cI, 10, .inl bs)), (ar, .inl (cI, 10, .inl br)), (am, .inl (cI, 1024, .inl mt)), (xm, .inr (1, [.ref al, .ref ak])), (al, .inl (cI, 16, .inl lv)), (ak, .inl (cI, 16, .inl ks))] sz) (fun H => H.size = sz ∧ va_P G vwCl [(x, .inr (3, [.ref xp, .ref xb, .ref xm])), (xp, .inr (2, [.ref ap, .int (nI pn)])), (ap, .inl (cI, 12, .inl pf)), (xb, .inr (0, [.ref as, .ref ar, .ref am, .int (nI bn)])), (as, .inl (cI, 10, .inl bs)), (ar, .inl (cI, 10, .inl br)), (am, .inl (cI, 1024, .inl mt)), (xm, .inr (1, [.ref al, .ref ak])), (al, .inl (cI, 16, .inl lv)), (ak, .inl (cI, 16, .inl ks))] H ∧ va_D (fun _ => True) [(x, .inr (3, [.ref xp, .ref xb, .ref xm])), (xp, .inr (2, [.ref ap, .int (nI pn)])), (ap, .inl (cI, 12, .inl pf)), (xb, .inr (0, [.ref as, .ref ar, .ref am, .int (nI bn)])), (as, .inl (cI, 10, .inl bs)), (ar, .inl (cI, 10, .inl br)), (am, .inl (cI, 1024, .inl mt)), (xm, .inr (1, [.ref al, .ref ak])), (al, .inl (cI, 16, .inl lv)), (ak, .inl (cI, 16, .inl ks))])) (va_Qi (fun (r9 : Int32) (_ : Unit) => r9 = (nI (pn + 1))) (fun (_ : Unit) (T9 : State) => va_P G vwCl [(x, .inr (3, [.ref xp, .ref xb, .ref xm])), (xp, .inr (2, [.ref ap, .int (nI (pn + 1))])), (ap, .inl (cI, 12, .inl (upd pf pn (bv_AW i)))), (xb, .inr (0, [.ref as, .ref ar, .ref am, .int (nI bn)])), (as, .inl (cI, 10, .inl bs)), (ar, .inl (cI, 10, .inl br)), (am, .inl (cI, 1024, .inl mt)), (xm, .inr (1, [.ref al, .ref ak])), (al, .inl (cI, 16, .inl lv)), (ak, .inl (cI, 16, .inl ks))] T9.heap) (va_A [(x, .inr (3, [.ref xp, .ref xb, .ref xm])), (xp, .inr (2, [.ref ap, .int (nI pn)])), (ap, .inl (cI, 12, .inl pf)), (xb, .inr (0, [.ref as, .ref ar, .ref am, .int (nI bn)])), (as, .inl (cI, 10, .inl bs)), (ar, .inl (cI, 10, .inl br)), (am, .inl (cI, 1024, .inl mt)), (xm, .inr (1, [.ref al, .ref ak])), (al, .inl (cI, 16, .inl lv)), (ak, .inl (cI, 16, .inl ks))] sz)) 0 0 (va_A [(x, .inr (3, [.ref xp, .ref xb, .ref xm])), (xp, .inr (2, [.ref ap, .int (nI pn)])), (ap, .inl (cI, 12, .inl pf)), (xb, .inr (0, [.ref as, .ref ar, .ref am, .int (nI bn)])), (as, .inl (cI, 10, .inl bs)), (ar, .inl (cI, 10, .inl br)), (am, .inl (cI, 1024, .inl mt)), (xm, .inr (1, [.ref al, .ref ak])), (al, .inl (cI, 16, .inl lv)), (ak, .inl (cI, 16, .inl ks))] sz) := by
  refine Met.ofW (cc := cX3_atom) (maxL := 2) (ret := (some .int)) (by decide) rfl ?_
  intro p e s m args below meth c s₁ B hml hv
  obtain ⟨rfl, ⟨hsz, hP, hD0⟩, hE, hXA⟩ := hv
  have hx := B.exec
  have hb := B.bytes
  have hr := B.returns
  have hts := atoms_spec (ws := wsX3_atom) B.pre
  have hown : s.vm.findClass RX3 = some m.cls := findClass_of_methodNamed B.named
  have hlocks := B.notSynchronized
  have hK := hE.1
  have hw0 := hts (.static yX3_requireAtom) (List.mem_of_getElem? (i := 4) rfl)
  have hw1 := hts (.fieldLink RX3 12 "BeliefReviser" "pile" "LBeliefReviser$Pile;") (List.mem_of_getElem? (i := 1) rfl)
  have hw2 : ∀ w ∈ u_ws RX3 TX3 3, w ∈ wsX3_atom := by decide +kernel
  have hw3 := hts (.fieldLink RX3 37 "BeliefReviser" "ATOM_WORLDS" "[I") (List.mem_of_getElem? (i := 2) rfl)
  subst hsz
  have hD := hD0.self (sz := s.heap.size)
  generalize hAe : va_A [(x, .inr (3, [.ref xp, .ref xb, .ref xm])), (xp, .inr (2, [.ref ap, .int (nI pn)])), (ap, .inl (cI, 12, .inl pf)), (xb, .inr (0, [.ref as, .ref ar, .ref am, .int (nI bn)])), (as, .inl (cI, 10, .inl bs)), (ar, .inl (cI, 10, .inl br)), (am, .inl (cI, 1024, .inl mt)), (xm, .inr (1, [.ref al, .ref ak])), (al, .inl (cI, 16, .inl lv)), (ak, .inl (cI, 16, .inl ks))] s.heap.size = A at hD hXA ⊢
  have hA : ∀ q : Nat, s.heap.size ≤ q → A q := fun q h => by rw [← hAe]; exact Or.inr h
  have hS : va_S A s.heap s.heap [] := va_S.rf
  have hP : va_P G vwCl [(x, .inr (3, [.ref xp, .ref xb, .ref xm])), (xp, .inr (2, [.ref ap, .int (nI pn)])), (ap, .inl (cI, 12, .inl pf)), (xb, .inr (0, [.ref as, .ref ar, .ref am, .int (nI bn)])), (as, .inl (cI, 10, .inl bs)), (ar, .inl (cI, 10, .inl br)), (am, .inl (cI, 1024, .inl mt)), (xm, .inr (1, [.ref al, .ref ak])), (al, .inl (cI, 16, .inl lv)), (ak, .inl (cI, 16, .inl ks))] s.heap := hP
  have hl := lv_entry ([.ref x, .int (nI i)]) (n := 2) (Nat.le_of_ble_eq_true rfl)
  rw [lg_entry_eq]
  generalize (lg_sl ([.ref x, .int (nI i)]) ++ List.replicate (2 - (lg_sl ([.ref x, .int (nI i)])).length) Slot.unset).toArray = ls at hl ⊢
  have hl : lv_has ls 2 [(0, .ref x), (1, .int (nI i))] := hl
  refine lv_iload_n (pc := 0) hx hb dX3_atom_0 rfl (lv_at hl 1 rfl) ?_
  have hPc := hP.sub (ws' := []) [] rfl
  refine bv_cSv (pc := 1) (va_runS (As := [.int (nI i)]) (rest := []) ⟨hx, hb, hml, hown, hts⟩ (m_X3_requireAtom l G cI i (by first | assumption | omega)) (va_cwS 1 hts gX3_atom_X3_requireAtom rfl rfl rfl (by decide +kernel) ⟨Nat.le_of_ble_eq_true rfl, Nat.le_of_ble_eq_true rfl⟩) (bv_pSS hE ((hXA.kept hS.2.1).narrow (fun _ h => False.elim h)) hPc) rfl rfl hl.1 rfl (lv_room (Nat.le_of_ble_eq_true rfl)) dX3_atom_1 ⟨Nat.le_of_ble_eq_true rfl, Nat.le_of_ble_eq_true rfl⟩) ?_
  refine lv_aload_n (pc := 4) hx hb dX3_atom_4 rfl (lv_at hl 0 rfl) ?_
  have hPc := hP.sub (ws' := [(x, .inr (3, [.ref xp, .ref xb, .ref xm])), (xp, .inr (2, [.ref ap, .int (nI pn)])), (ap, .inl (cI, 12, .inl pf)), (xb, .inr (0, [.ref as, .ref ar, .ref am, .int (nI bn)])), (as, .inl (cI, 10, .inl bs)), (ar, .inl (cI, 10, .inl br)), (am, .inl (cI, 1024, .inl mt)), (xm, .inr (1, [.ref al, .ref ak])), (al, .inl (cI, 16, .inl lv)), (ak, .inl (cI, 16, .inl ks))]) [0, 1, 2, 3, 4, 5, 6, 7, 8, 9] rfl
  refine bv_cSv (pc := 5) (va_runV (As := []) (rest := []) ⟨hx, hb, hml, hown, hts⟩ (m_X3_requirePileRoom l G cI x xp ap pn xb as ar am bn xm al ak pf bs br mt lv ks (by first | assumption | omega) (by first | assumption | omega)) (cwV 0 hts gX3_atom_X3_requirePileRoom rfl rfl rfl (by decide +kernel) ⟨Nat.le_of_ble_eq_true rfl, Nat.le_of_ble_eq_true rfl⟩) (bv_pV hE hPc (va_recv hK hP (ci := 3) (q0 := 0) rfl rfl)) rfl rfl hl.1 rfl (lv_room (Nat.le_of_ble_eq_true rfl)) dX3_atom_5 ⟨Nat.le_of_ble_eq_true rfl, Nat.le_of_ble_eq_true rfl⟩) ?_
  refine lv_aload_n (pc := 8) hx hb dX3_atom_8 rfl (lv_at hl 0 rfl) ?_
  refine va_get (pc := 9) (D := G) (ci := 3) (v := .ref xp) (C := RX3) (T := TX3) (N := 3) hx hb hts hw2 hown hK hP 0 rfl rfl 0 (by decide) hw1 (fun _ h9 => h9) rfl dX3_atom_9 ?_
  obtain ⟨qA, hZA, hTA⟩ := hXA.narrow (B := fun _ => False) (fun _ h => False.elim h)
  refine va_gets (A := fun _ => False) hx hb hZA va_S.rf hown hw3 (fun _ h9 => h9) dX3_atom_12 ?_
  refine lv_iload_n (pc := 15) hx hb dX3_atom_15 rfl (lv_at hl 1 rfl) ?_
  refine bv_cSi (pc := 16) (E' := (bv_AW i)) (va_runS (As := [.ref qA, .int (nI i)]) (rest := [.ref xp]) ⟨hx, hb, hml, hown, hts⟩ (m_X3_atT l G cI qA (nI i)) (va_cwS 2 hts gX3_atom_X3_at rfl rfl rfl (by decide +kernel) ⟨Nat.le_of_ble_eq_true rfl, Nat.le_of_ble_eq_true rfl⟩) (bv_pST hE hTA) rfl rfl hl.1 rfl (lv_room (Nat.le_of_ble_eq_true rfl)) dX3_atom_16 ⟨Nat.le_of_ble_eq_true rfl, Nat.le_of_ble_eq_true rfl⟩) (bv_at_nI (by omega) (by decide)) ?_
  have hPc := hP.sub (ws' := [(xp, .inr (2, [.ref ap, .int (nI pn)])), (ap, .inl (cI, 12, .inl pf))]) [1, 2] rfl
  have hDc := hD.sub (ws' := [(xp, .inr (2, [.ref ap, .int (nI pn)])), (ap, .inl (cI, 12, .inl pf))]) [1, 2] (by decide) rfl
  have hFc := va_free (wc := [(xp, .inr (2, [.ref ap, .int (nI pn)])), (ap, .inl (cI, 12, .inl pf))]) hD hS hA [1, 2] rfl
  refine va_callv (pc := 19) (va_runV (As := [.int (bv_AW i)]) (rest := []) ⟨hx, hb, hml, hown, hts⟩ (m_X2_lay l G cI s.heap.size xp ap pn pf (bv_AW i) (by first | assumption | omega)) (cwV 1 hts gX3_atom_X2_lay rfl rfl rfl (by decide +kernel) ⟨Nat.le_of_ble_eq_true rfl, Nat.le_of_ble_eq_true rfl⟩) (bv_pV hE ⟨rfl, hPc, hDc.weaken (fun _ _ _ _ => trivial)⟩ (va_recv hK hP (ci := 2) (q0 := 1) rfl rfl)) rfl rfl hl.1 rfl (lv_room (Nat.le_of_ble_eq_true rfl)) dX3_atom_19 ⟨Nat.le_of_ble_eq_true rfl, Nat.le_of_ble_eq_true rfl⟩) hS (fun q _ h => hFc q h) hFc (fun u8 t8 H1 locs ht8 hvm8 e_6 hB8 hz1 hk1 hS => ?_)
  have hP1 : va_P G vwCl [(xp, .inr (2, [.ref ap, .int (nI (pn + 1))])), (ap, .inl (cI, 12, .inl (upd pf pn (bv_AW i))))] H1 := by rw [← ht8]; exact hB8
  obtain ⟨hP, hD⟩ := va_join (wr := [(x, .inr (3, [.ref xp, .ref xb, .ref xm])), (xb, .inr (0, [.ref as, .ref ar, .ref am, .int (nI bn)])), (as, .inl (cI, 10, .inl bs)), (ar, .inl (cI, 10, .inl br)), (am, .inl (cI, 1024, .inl mt)), (xm, .inr (1, [.ref al, .ref ak])), (al, .inl (cI, 16, .inl lv)), (ak, .inl (cI, 16, .inl ks))]) (w1 := [(xp, .inr (2, [.ref ap, .int (nI (pn + 1))])), (ap, .inl (cI, 12, .inl (upd pf pn (bv_AW i))))]) hP hD [1, 2] [0, 3, 4, 5, 6, 7, 8, 9] rfl rfl (by decide) (by decide) hk1 hFc hP1 (bv_Dm (w0 := [(xp, .inr (2, [.ref ap, .int (nI pn)])), (ap, .inl (cI, 12, .inl pf))]) [xp, ap] rfl rfl hDc.self)
  have hP : va_P G vwCl [(x, .inr (3, [.ref xp, .ref xb, .ref xm])), (xp, .inr (2, [.ref ap, .int (nI (pn + 1))])), (ap, .inl (cI, 12, .inl (upd pf pn (bv_AW i)))), (xb, .inr (0, [.ref as, .ref ar, .ref am, .int (nI bn)])), (as, .inl (cI, 10, .inl bs)), (ar, .inl (cI, 10, .inl br)), (am, .inl (cI, 1024, .inl mt)), (xm, .inr (1, [.ref al, .ref ak])), (al, .inl (cI, 16, .inl lv)), (ak, .inl (cI, 16, .inl ks))] H1 := hP.sub (ws' := [(x, .inr (3, [.ref xp, .ref xb, .ref xm])), (xp, .inr (2, [.ref ap, .int (nI (pn + 1))])), (ap, .inl (cI, 12, .inl (upd pf pn (bv_AW i)))), (xb, .inr (0, [.ref as, .ref ar, .ref am, .int (nI bn)])), (as, .inl (cI, 10, .inl bs)), (ar, .inl (cI, 10, .inl br)), (am, .inl (cI, 1024, .inl mt)), (xm, .inr (1, [.ref al, .ref ak])), (al, .inl (cI, 16, .inl lv)), (ak, .inl (cI, 16, .inl ks))]) [0, 8, 9, 1, 2, 3, 4, 5, 6, 7] rfl
  have hD : va_D A [(x, .inr (3, [.ref xp, .ref xb, .ref xm])), (xp, .inr (2, [.ref ap, .int (nI (pn + 1))])), (ap, .inl (cI, 12, .inl (upd pf pn (bv_AW i)))), (xb, .inr (0, [.ref as, .ref ar, .ref am, .int (nI bn)])), (as, .inl (cI, 10, .inl bs)), (ar, .inl (cI, 10, .inl br)), (am, .inl (cI, 1024, .inl mt)), (xm, .inr (1, [.ref al, .ref ak])), (al, .inl (cI, 16, .inl lv)), (ak, .inl (cI, 16, .inl ks))] := hD.sub (ws' := [(x, .inr (3, [.ref xp, .ref xb, .ref xm])), (xp, .inr (2, [.ref ap, .int (nI (pn + 1))])), (ap, .inl (cI, 12, .inl (upd pf pn (bv_AW i)))), (xb, .inr (0, [.ref as, .ref ar, .ref am, .int (nI bn)])), (as, .inl (cI, 10, .inl bs)), (ar, .inl (cI, 10, .inl br)), (am, .inl (cI, 1024, .inl mt)), (xm, .inr (1, [.ref al, .ref ak])), (al, .inl (cI, 16, .inl lv)), (ak, .inl (cI, 16, .inl ks))]) [0, 8, 9, 1, 2, 3, 4, 5, 6, 7] (by decide) rfl
  generalize H1 = H at hP hS ⊢
  refine lv_aload_n (pc := 22) hx hb dX3_atom_22 rfl (lv_at hl 0 rfl) ?_
  refine va_get (pc := 23) (D := G) (ci := 3) (v := .ref xp) (C := RX3) (T := TX3) (N := 3) hx hb hts hw2 hown hK hP 0 rfl rfl 0 (by decide) hw1 (fun _ h9 => h9) rfl dX3_atom_23 ?_
  have hPc := hP.sub (ws' := [(xp, .inr (2, [.ref ap, .int (nI (pn + 1))])), (ap, .inl (cI, 12, .inl (upd pf pn (bv_AW i))))]) [1, 2] rfl
  refine bv_cSi (pc := 26) (E' := (nI (pn + 1))) (va_runV (As := []) (rest := []) ⟨hx, hb, hml, hown, hts⟩ (m_X2_count l G cI xp ap (pn + 1) (upd pf pn (bv_AW i)) ) (cwV 0 hts gX3_atom_X2_count rfl rfl rfl (by decide +kernel) ⟨Nat.le_of_ble_eq_true rfl, Nat.le_of_ble_eq_true rfl⟩) (bv_pV hE hPc (va_recv hK hP (ci := 2) (q0 := 1) rfl rfl)) rfl rfl hl.1 rfl (lv_room (Nat.le_of_ble_eq_true rfl)) dX3_atom_26 ⟨Nat.le_of_ble_eq_true rfl, Nat.le_of_ble_eq_true rfl⟩) rfl ?_
  have hP9 : va_P G vwCl [(x, .inr (3, [.ref xp, .ref xb, .ref xm])), (xp, .inr (2, [.ref ap, .int (nI (pn + 1))])), (ap, .inl (cI, 12, .inl (upd pf pn (bv_AW i)))), (xb, .inr (0, [.ref as, .ref ar, .ref am, .int (nI bn)])), (as, .inl (cI, 10, .inl bs)), (ar, .inl (cI, 10, .inl br)), (am, .inl (cI, 1024, .inl mt)), (xm, .inr (1, [.ref al, .ref ak])), (al, .inl (cI, 16, .inl lv)), (ak, .inl (cI, 16, .inl ks))] H := hP
  exact W.iret (pc := 29) (v := (nI (pn + 1))) hx hb hr (fun T8 hT8 hW8 => ⟨⟨(nI (pn + 1)), (), rfl, rfl, bv_hP hT8 hP9⟩, hS.F hT8⟩) hS.2.2 dX3_atom_29
set_option maxHeartbeats 4000000 in
set_option maxRecDepth 100000 in
theorem m_X3_negate (l : Launch) (G : va_G) (cI : ClassId) (sz : Nat) (x xp ap pn xb as ar am bn xm al ak : Nat) (pf bs br mt lv ks : Nat → Int32) (hp : pn ≤ 12) (hn : bn ≤ 10) (hM : ∀ t, t < 2 ^ bn → mt t = bv_wi bs t bn) (h1 : 1 ≤ pn) : Met l yX3_negate wsX3_negate ({ frames := 3, cells := 0, slots := 0, locals := 65 }) (bv_P [.ref x] G cI (fun H => H.size = sz ∧ va_P G vwCl [(x, .inr (3, [.ref xp, .ref xb, .ref xm])), (xp, .inr (2, [.ref ap, .int (nI pn)])), (ap, .inl (cI, 12, .inl pf)), (xb, .inr (0, [.ref as, .ref ar, .ref am, .int (nI bn)])), (as, .inl (cI, 10, .inl bs)), (ar, .inl (cI, 10, .inl br)), (am, .inl (cI, 1024, .inl mt)), (xm, .inr (1, [.ref al, .ref ak])), (al, .inl (cI, 16, .inl lv)), (ak, .inl (cI, 16, .inl ks))] H ∧ va_D (fun _ => True) [(x, .inr (3, [.ref xp, .ref xb, .ref xm])), (xp, .inr (2, [.ref ap, .int (nI pn)])), (ap, .inl (cI, 12, .inl pf)), (xb, .inr (0, [.ref as, .ref ar, .ref am, .int (nI bn)])), (as, .inl (cI, 10, .inl bs)), (ar, .inl (cI, 10, .inl br)), (am, .inl (cI, 1024, .inl mt)), (xm, .inr (1, [.ref al, .ref ak])), (al, .inl (cI, 16, .inl lv)), (ak, .inl (cI, 16, .inl ks))])) (va_Qi (fun (r9 : Int32) (_ : Unit) => r9 = (bv_not (pf (pn - 1)))) (fun (_ : Unit) (T9 : State) => va_P G vwCl [(x, .inr (3, [.ref xp, .ref xb, .ref xm])), (xp, .inr (2, [.ref ap, .int (nI pn)])), (ap, .inl (cI, 12, .inl (upd pf (pn - 1) (bv_not (pf (pn - 1)))))), (xb, .inr (0, [.ref as, .ref ar, .ref am, .int (nI bn)])), (as, .inl (cI, 10, .inl bs)), (ar, .inl (cI, 10, .inl br)), (am, .inl (cI, 1024, .inl mt)), (xm, .inr (1, [.ref al, .ref ak])), (al, .inl (cI, 16, .inl lv)), (ak, .inl (cI, 16, .inl ks))] T9.heap) (va_A [(x, .inr (3, [.ref xp, .ref xb, .ref xm])), (xp, .inr (2, [.ref ap, .int (nI pn)])), (ap, .inl (cI, 12, .inl pf)), (xb, .inr (0, [.ref as, .ref ar, .ref am, .int (nI bn)])), (as, .inl (cI, 10, .inl bs)), (ar, .inl (cI, 10, .inl br)), (am, .inl (cI, 1024, .inl mt)), (xm, .inr (1, [.ref al, .ref ak])), (al, .inl (cI, 16, .inl lv)), (ak, .inl (cI, 16, .inl ks))] sz)) 0 0 (va_A [(x, .inr (3, [.ref xp, .ref xb, .ref xm])), (xp, .inr (2, [.ref ap, .int (nI pn)])), (ap, .inl (cI, 12, .inl pf)), (xb, .inr (0, [.ref as, .ref ar, .ref am, .int (nI bn)])), (as, .inl (cI, 10, .inl bs)), (ar, .inl (cI, 10, .inl br)), (am, .inl (cI, 1024, .inl mt)), (xm, .inr (1, [.ref al, .ref ak])), (al, .inl (cI, 16, .inl lv)), (ak, .inl (cI, 16, .inl ks))] sz) := by
  refine Met.ofW (cc := cX3_negate) (maxL := 2) (ret := (some .int)) (by decide) rfl ?_
  intro p e s m args below meth c s₁ B hml hv
  obtain ⟨rfl, ⟨hsz, hP, hD0⟩, hE⟩ := hv
  have hx := B.exec
  have hb := B.bytes
  have hr := B.returns
  have hts := atoms_spec (ws := wsX3_negate) B.pre
  have hown : s.vm.findClass RX3 = some m.cls := findClass_of_methodNamed B.named
  have hlocks := B.notSynchronized
  have hK := hE.1
  have hw0 := hts (.static yX3_not) (List.mem_of_getElem? (i := 23) rfl)
  have hw1 := hts (.fieldLink RX3 12 "BeliefReviser" "pile" "LBeliefReviser$Pile;") (List.mem_of_getElem? (i := 1) rfl)
  have hw2 : ∀ w ∈ u_ws RX3 TX3 3, w ∈ wsX3_negate := by decide +kernel
  subst hsz
  have hD := hD0.self (sz := s.heap.size)
  generalize hAe : va_A [(x, .inr (3, [.ref xp, .ref xb, .ref xm])), (xp, .inr (2, [.ref ap, .int (nI pn)])), (ap, .inl (cI, 12, .inl pf)), (xb, .inr (0, [.ref as, .ref ar, .ref am, .int (nI bn)])), (as, .inl (cI, 10, .inl bs)), (ar, .inl (cI, 10, .inl br)), (am, .inl (cI, 1024, .inl mt)), (xm, .inr (1, [.ref al, .ref ak])), (al, .inl (cI, 16, .inl lv)), (ak, .inl (cI, 16, .inl ks))] s.heap.size = A at hD ⊢
  have hA : ∀ q : Nat, s.heap.size ≤ q → A q := fun q h => by rw [← hAe]; exact Or.inr h
  have hS : va_S A s.heap s.heap [] := va_S.rf
  have hP : va_P G vwCl [(x, .inr (3, [.ref xp, .ref xb, .ref xm])), (xp, .inr (2, [.ref ap, .int (nI pn)])), (ap, .inl (cI, 12, .inl pf)), (xb, .inr (0, [.ref as, .ref ar, .ref am, .int (nI bn)])), (as, .inl (cI, 10, .inl bs)), (ar, .inl (cI, 10, .inl br)), (am, .inl (cI, 1024, .inl mt)), (xm, .inr (1, [.ref al, .ref ak])), (al, .inl (cI, 16, .inl lv)), (ak, .inl (cI, 16, .inl ks))] s.heap := hP
  have hl := lv_entry ([.ref x]) (n := 2) (Nat.le_of_ble_eq_true rfl)
  rw [lg_entry_eq]
  generalize (lg_sl ([.ref x]) ++ List.replicate (2 - (lg_sl ([.ref x])).length) Slot.unset).toArray = ls at hl ⊢
  have hl : lv_has ls 2 [(0, .ref x)] := hl
  refine lv_aload_n (pc := 0) hx hb dX3_negate_0 rfl (lv_at hl 0 rfl) ?_
  have hPc := hP.sub (ws' := [(x, .inr (3, [.ref xp, .ref xb, .ref xm])), (xp, .inr (2, [.ref ap, .int (nI pn)])), (ap, .inl (cI, 12, .inl pf)), (xb, .inr (0, [.ref as, .ref ar, .ref am, .int (nI bn)])), (as, .inl (cI, 10, .inl bs)), (ar, .inl (cI, 10, .inl br)), (am, .inl (cI, 1024, .inl mt)), (xm, .inr (1, [.ref al, .ref ak])), (al, .inl (cI, 16, .inl lv)), (ak, .inl (cI, 16, .inl ks))]) [0, 1, 2, 3, 4, 5, 6, 7, 8, 9] rfl
  refine bv_cSi (pc := 1) (E' := (pf (pn - 1))) (va_runV (As := []) (rest := []) ⟨hx, hb, hml, hown, hts⟩ (m_X3_requireTop l G cI x xp ap pn xb as ar am bn xm al ak pf bs br mt lv ks (by first | assumption | omega) (by first | assumption | omega)) (cwV 0 hts gX3_negate_X3_requireTop rfl rfl rfl (by decide +kernel) ⟨Nat.le_of_ble_eq_true rfl, Nat.le_of_ble_eq_true rfl⟩) (bv_pV hE hPc (va_recv hK hP (ci := 3) (q0 := 0) rfl rfl)) rfl rfl hl.1 rfl (lv_room (Nat.le_of_ble_eq_true rfl)) dX3_negate_1 ⟨Nat.le_of_ble_eq_true rfl, Nat.le_of_ble_eq_true rfl⟩) rfl ?_
  have hPc := hP.sub (ws' := []) [] rfl
  refine bv_cSi (pc := 4) (E' := (bv_not (pf (pn - 1)))) (va_runS (As := [.int (pf (pn - 1))]) (rest := []) ⟨hx, hb, hml, hown, hts⟩ (m_X3_not l G cI (pf (pn - 1)) ) (va_cwS 1 hts gX3_negate_X3_not rfl rfl rfl (by decide +kernel) ⟨Nat.le_of_ble_eq_true rfl, Nat.le_of_ble_eq_true rfl⟩) (bv_pS hE hPc) rfl rfl hl.1 rfl (lv_room (Nat.le_of_ble_eq_true rfl)) dX3_negate_4 ⟨Nat.le_of_ble_eq_true rfl, Nat.le_of_ble_eq_true rfl⟩) rfl ?_
  refine lv_istore_n (pc := 7) (lv' := [(1, .int (bv_not (pf (pn - 1)))), (0, .ref x)]) hx hb dX3_negate_7 rfl hl (by decide) rfl (fun ls hl => ?_)
  refine lv_aload_n (pc := 8) hx hb dX3_negate_8 rfl (lv_at hl 1 rfl) ?_
  refine va_get (pc := 9) (D := G) (ci := 3) (v := .ref xp) (C := RX3) (T := TX3) (N := 3) hx hb hts hw2 hown hK hP 0 rfl rfl 0 (by decide) hw1 (fun _ h9 => h9) rfl dX3_negate_9 ?_
  refine lv_iconst (pc := 12) (v := 1) hx hb dX3_negate_12 (by decide) ?_
  refine lv_iload_n (pc := 13) hx hb dX3_negate_13 rfl (lv_at hl 0 rfl) ?_
  have hPc := hP.sub (ws' := [(xp, .inr (2, [.ref ap, .int (nI pn)])), (ap, .inl (cI, 12, .inl pf))]) [1, 2] rfl
  have hDc := hD.sub (ws' := [(xp, .inr (2, [.ref ap, .int (nI pn)])), (ap, .inl (cI, 12, .inl pf))]) [1, 2] (by decide) rfl
  have hFc := va_free (wc := [(xp, .inr (2, [.ref ap, .int (nI pn)])), (ap, .inl (cI, 12, .inl pf))]) hD hS hA [1, 2] rfl
  refine va_callv (pc := 14) (va_runV (As := [.int 1, .int (bv_not (pf (pn - 1)))]) (rest := []) ⟨hx, hb, hml, hown, hts⟩ (m_X2_replace l G cI s.heap.size xp ap pn pf 1 (bv_not (pf (pn - 1))) (by decide) h1 hp) (cwV 2 hts gX3_negate_X2_replace rfl rfl rfl (by decide +kernel) ⟨Nat.le_of_ble_eq_true rfl, Nat.le_of_ble_eq_true rfl⟩) (bv_pV hE ⟨rfl, hPc, hDc.weaken (fun _ _ _ _ => trivial)⟩ (va_recv hK hP (ci := 2) (q0 := 1) rfl rfl)) rfl rfl hl.1 rfl (lv_room (Nat.le_of_ble_eq_true rfl)) dX3_negate_14 ⟨Nat.le_of_ble_eq_true rfl, Nat.le_of_ble_eq_true rfl⟩) hS (fun q _ h => hFc q h) hFc (fun u8 t8 H1 locs ht8 hvm8 e_6 hB8 hz1 hk1 hS => ?_)
  have hP1 : va_P G vwCl [(xp, .inr (2, [.ref ap, .int (nI (pn - 1 + 1))])), (ap, .inl (cI, 12, .inl (upd pf (pn - 1) (bv_not (pf (pn - 1))))))] H1 := by rw [← ht8]; exact hB8
  obtain ⟨hP, hD⟩ := va_join (wr := [(x, .inr (3, [.ref xp, .ref xb, .ref xm])), (xb, .inr (0, [.ref as, .ref ar, .ref am, .int (nI bn)])), (as, .inl (cI, 10, .inl bs)), (ar, .inl (cI, 10, .inl br)), (am, .inl (cI, 1024, .inl mt)), (xm, .inr (1, [.ref al, .ref ak])), (al, .inl (cI, 16, .inl lv)), (ak, .inl (cI, 16, .inl ks))]) (w1 := [(xp, .inr (2, [.ref ap, .int (nI (pn - 1 + 1))])), (ap, .inl (cI, 12, .inl (upd pf (pn - 1) (bv_not (pf (pn - 1))))))]) hP hD [1, 2] [0, 3, 4, 5, 6, 7, 8, 9] rfl rfl (by decide) (by decide) hk1 hFc hP1 (bv_Dm (w0 := [(xp, .inr (2, [.ref ap, .int (nI pn)])), (ap, .inl (cI, 12, .inl pf))]) [xp, ap] rfl rfl hDc.self)
  have hP : va_P G vwCl [(x, .inr (3, [.ref xp, .ref xb, .ref xm])), (xp, .inr (2, [.ref ap, .int (nI (pn - 1 + 1))])), (ap, .inl (cI, 12, .inl (upd pf (pn - 1) (bv_not (pf (pn - 1)))))), (xb, .inr (0, [.ref as, .ref ar, .ref am, .int (nI bn)])), (as, .inl (cI, 10, .inl bs)), (ar, .inl (cI, 10, .inl br)), (am, .inl (cI, 1024, .inl mt)), (xm, .inr (1, [.ref al, .ref ak])), (al, .inl (cI, 16, .inl lv)), (ak, .inl (cI, 16, .inl ks))] H1 := hP.sub (ws' := [(x, .inr (3, [.ref xp, .ref xb, .ref xm])), (xp, .inr (2, [.ref ap, .int (nI (pn - 1 + 1))])), (ap, .inl (cI, 12, .inl (upd pf (pn - 1) (bv_not (pf (pn - 1)))))), (xb, .inr (0, [.ref as, .ref ar, .ref am, .int (nI bn)])), (as, .inl (cI, 10, .inl bs)), (ar, .inl (cI, 10, .inl br)), (am, .inl (cI, 1024, .inl mt)), (xm, .inr (1, [.ref al, .ref ak])), (al, .inl (cI, 16, .inl lv)), (ak, .inl (cI, 16, .inl ks))]) [0, 8, 9, 1, 2, 3, 4, 5, 6, 7] rfl
  have hD : va_D A [(x, .inr (3, [.ref xp, .ref xb, .ref xm])), (xp, .inr (2, [.ref ap, .int (nI (pn - 1 + 1))])), (ap, .inl (cI, 12, .inl (upd pf (pn - 1) (bv_not (pf (pn - 1)))))), (xb, .inr (0, [.ref as, .ref ar, .ref am, .int (nI bn)])), (as, .inl (cI, 10, .inl bs)), (ar, .inl (cI, 10, .inl br)), (am, .inl (cI, 1024, .inl mt)), (xm, .inr (1, [.ref al, .ref ak])), (al, .inl (cI, 16, .inl lv)), (ak, .inl (cI, 16, .inl ks))] := hD.sub (ws' := [(x, .inr (3, [.ref xp, .ref xb, .ref xm])), (xp, .inr (2, [.ref ap, .int (nI (pn - 1 + 1))])), (ap, .inl (cI, 12, .inl (upd pf (pn - 1) (bv_not (pf (pn - 1)))))), (xb, .inr (0, [.ref as, .ref ar, .ref am, .int (nI bn)])), (as, .inl (cI, 10, .inl bs)), (ar, .inl (cI, 10, .inl br)), (am, .inl (cI, 1024, .inl mt)), (xm, .inr (1, [.ref al, .ref ak])), (al, .inl (cI, 16, .inl lv)), (ak, .inl (cI, 16, .inl ks))]) [0, 8, 9, 1, 2, 3, 4, 5, 6, 7] (by decide) rfl
  generalize H1 = H at hP hS ⊢
  refine lv_iload_n (pc := 17) hx hb dX3_negate_17 rfl (lv_at hl 0 rfl) ?_
  have hP9 : va_P G vwCl [(x, .inr (3, [.ref xp, .ref xb, .ref xm])), (xp, .inr (2, [.ref ap, .int (nI pn)])), (ap, .inl (cI, 12, .inl (upd pf (pn - 1) (bv_not (pf (pn - 1)))))), (xb, .inr (0, [.ref as, .ref ar, .ref am, .int (nI bn)])), (as, .inl (cI, 10, .inl bs)), (ar, .inl (cI, 10, .inl br)), (am, .inl (cI, 1024, .inl mt)), (xm, .inr (1, [.ref al, .ref ak])), (al, .inl (cI, 16, .inl lv)), (ak, .inl (cI, 16, .inl ks))] H := by rw [Nat.sub_add_cancel h1] at hP; exact hP
  exact W.iret (pc := 18) (v := (bv_not (pf (pn - 1)))) hx hb hr (fun T8 hT8 hW8 => ⟨⟨(bv_not (pf (pn - 1))), (), rfl, rfl, bv_hP hT8 hP9⟩, hS.F hT8⟩) hS.2.2 dX3_negate_18
set_option maxHeartbeats 4000000 in
set_option maxRecDepth 100000 in
theorem m_X3_join (l : Launch) (G : va_G) (cI : ClassId) (sz : Nat) (x xp ap pn xb as ar am bn xm al ak : Nat) (pf bs br mt lv ks : Nat → Int32) (i : Int32) (hp : pn ≤ 12) (hn : bn ≤ 10) (hM : ∀ t, t < 2 ^ bn → mt t = bv_wi bs t bn) (hi : 0 ≤ i ∧ i ≤ 3) (h2 : 2 ≤ pn) : Met l yX3_join wsX3_join ({ frames := 3, cells := 0, slots := 0, locals := 65 }) (bv_P [.ref x, .int i] G cI (fun H => H.size = sz ∧ va_P G vwCl [(x, .inr (3, [.ref xp, .ref xb, .ref xm])), (xp, .inr (2, [.ref ap, .int (nI pn)])), (ap, .inl (cI, 12, .inl pf)), (xb, .inr (0, [.ref as, .ref ar, .ref am, .int (nI bn)])), (as, .inl (cI, 10, .inl bs)), (ar, .inl (cI, 10, .inl br)), (am, .inl (cI, 1024, .inl mt)), (xm, .inr (1, [.ref al, .ref ak])), (al, .inl (cI, 16, .inl lv)), (ak, .inl (cI, 16, .inl ks))] H ∧ va_D (fun _ => True) [(x, .inr (3, [.ref xp, .ref xb, .ref xm])), (xp, .inr (2, [.ref ap, .int (nI pn)])), (ap, .inl (cI, 12, .inl pf)), (xb, .inr (0, [.ref as, .ref ar, .ref am, .int (nI bn)])), (as, .inl (cI, 10, .inl bs)), (ar, .inl (cI, 10, .inl br)), (am, .inl (cI, 1024, .inl mt)), (xm, .inr (1, [.ref al, .ref ak])), (al, .inl (cI, 16, .inl lv)), (ak, .inl (cI, 16, .inl ks))])) (va_Qi (fun (r9 : Int32) (_ : Unit) => r9 = (bv_join i (pf (pn - 2)) (pf (pn - 1)))) (fun (_ : Unit) (T9 : State) => va_P G vwCl [(x, .inr (3, [.ref xp, .ref xb, .ref xm])), (xp, .inr (2, [.ref ap, .int (nI (pn - 1))])), (ap, .inl (cI, 12, .inl (upd pf (pn - 2) (bv_join i (pf (pn - 2)) (pf (pn - 1)))))), (xb, .inr (0, [.ref as, .ref ar, .ref am, .int (nI bn)])), (as, .inl (cI, 10, .inl bs)), (ar, .inl (cI, 10, .inl br)), (am, .inl (cI, 1024, .inl mt)), (xm, .inr (1, [.ref al, .ref ak])), (al, .inl (cI, 16, .inl lv)), (ak, .inl (cI, 16, .inl ks))] T9.heap) (va_A [(x, .inr (3, [.ref xp, .ref xb, .ref xm])), (xp, .inr (2, [.ref ap, .int (nI pn)])), (ap, .inl (cI, 12, .inl pf)), (xb, .inr (0, [.ref as, .ref ar, .ref am, .int (nI bn)])), (as, .inl (cI, 10, .inl bs)), (ar, .inl (cI, 10, .inl br)), (am, .inl (cI, 1024, .inl mt)), (xm, .inr (1, [.ref al, .ref ak])), (al, .inl (cI, 16, .inl lv)), (ak, .inl (cI, 16, .inl ks))] sz)) 0 0 (va_A [(x, .inr (3, [.ref xp, .ref xb, .ref xm])), (xp, .inr (2, [.ref ap, .int (nI pn)])), (ap, .inl (cI, 12, .inl pf)), (xb, .inr (0, [.ref as, .ref ar, .ref am, .int (nI bn)])), (as, .inl (cI, 10, .inl bs)), (ar, .inl (cI, 10, .inl br)), (am, .inl (cI, 1024, .inl mt)), (xm, .inr (1, [.ref al, .ref ak])), (al, .inl (cI, 16, .inl lv)), (ak, .inl (cI, 16, .inl ks))] sz) := by
  refine Met.ofW (cc := cX3_join) (maxL := 3) (ret := (some .int)) (by decide) rfl ?_
  intro p e s m args below meth c s₁ B hml hv
  obtain ⟨rfl, ⟨hsz, hP, hD0⟩, hE⟩ := hv
  have hx := B.exec
  have hb := B.bytes
  have hr := B.returns
  have hts := atoms_spec (ws := wsX3_join) B.pre
  have hown : s.vm.findClass RX3 = some m.cls := findClass_of_methodNamed B.named
  have hlocks := B.notSynchronized
  have hK := hE.1
  have hw0 := hts (.fieldLink RX3 12 "BeliefReviser" "pile" "LBeliefReviser$Pile;") (List.mem_of_getElem? (i := 3) rfl)
  have hw1 : ∀ w ∈ u_ws RX3 TX3 3, w ∈ wsX3_join := by decide +kernel
  have hw2 := hts (.static yX3_joined) (List.mem_of_getElem? (i := 25) rfl)
  subst hsz
  have hD := hD0.self (sz := s.heap.size)
  generalize hAe : va_A [(x, .inr (3, [.ref xp, .ref xb, .ref xm])), (xp, .inr (2, [.ref ap, .int (nI pn)])), (ap, .inl (cI, 12, .inl pf)), (xb, .inr (0, [.ref as, .ref ar, .ref am, .int (nI bn)])), (as, .inl (cI, 10, .inl bs)), (ar, .inl (cI, 10, .inl br)), (am, .inl (cI, 1024, .inl mt)), (xm, .inr (1, [.ref al, .ref ak])), (al, .inl (cI, 16, .inl lv)), (ak, .inl (cI, 16, .inl ks))] s.heap.size = A at hD ⊢
  have hA : ∀ q : Nat, s.heap.size ≤ q → A q := fun q h => by rw [← hAe]; exact Or.inr h
  have hS : va_S A s.heap s.heap [] := va_S.rf
  have hP : va_P G vwCl [(x, .inr (3, [.ref xp, .ref xb, .ref xm])), (xp, .inr (2, [.ref ap, .int (nI pn)])), (ap, .inl (cI, 12, .inl pf)), (xb, .inr (0, [.ref as, .ref ar, .ref am, .int (nI bn)])), (as, .inl (cI, 10, .inl bs)), (ar, .inl (cI, 10, .inl br)), (am, .inl (cI, 1024, .inl mt)), (xm, .inr (1, [.ref al, .ref ak])), (al, .inl (cI, 16, .inl lv)), (ak, .inl (cI, 16, .inl ks))] s.heap := hP
  have hl := lv_entry ([.ref x, .int i]) (n := 3) (Nat.le_of_ble_eq_true rfl)
  rw [lg_entry_eq]
  generalize (lg_sl ([.ref x, .int i]) ++ List.replicate (3 - (lg_sl ([.ref x, .int i])).length) Slot.unset).toArray = ls at hl ⊢
  have hl : lv_has ls 3 [(0, .ref x), (1, .int i)] := hl
  refine lv_iload_n (pc := 0) hx hb dX3_join_0 rfl (lv_at hl 1 rfl) ?_
  refine lv_if_lt (pc := 1) (tgt := 9) hx hb dX3_join_1 (by decide) (fun c1_1 => ?_) (fun c1_1 => ?_)
  · exact absurd hi.1 (Int32.not_le.mpr c1_1)
  · refine lv_iload_n (pc := 4) hx hb dX3_join_4 rfl (lv_at hl 1 rfl) ?_
    refine lv_iconst (pc := 5) (v := 3) hx hb dX3_join_5 (by decide) ?_
    refine lv_icmp_le (pc := 6) (tgt := 19) hx hb dX3_join_6 (by decide) (fun c6_2 => ?_) (fun c6_2 => ?_)
    · refine lv_aload_n (pc := 19) hx hb dX3_join_19 rfl (lv_at hl 0 rfl) ?_
      have hPc := hP.sub (ws' := [(x, .inr (3, [.ref xp, .ref xb, .ref xm])), (xp, .inr (2, [.ref ap, .int (nI pn)])), (ap, .inl (cI, 12, .inl pf)), (xb, .inr (0, [.ref as, .ref ar, .ref am, .int (nI bn)])), (as, .inl (cI, 10, .inl bs)), (ar, .inl (cI, 10, .inl br)), (am, .inl (cI, 1024, .inl mt)), (xm, .inr (1, [.ref al, .ref ak])), (al, .inl (cI, 16, .inl lv)), (ak, .inl (cI, 16, .inl ks))]) [0, 1, 2, 3, 4, 5, 6, 7, 8, 9] rfl
      refine bv_cSv (pc := 20) (va_runV (As := []) (rest := []) ⟨hx, hb, hml, hown, hts⟩ (m_X3_requireTwo l G cI x xp ap pn xb as ar am bn xm al ak pf bs br mt lv ks (by first | assumption | omega) (by first | assumption | omega)) (cwV 0 hts gX3_join_X3_requireTwo rfl rfl rfl (by decide +kernel) ⟨Nat.le_of_ble_eq_true rfl, Nat.le_of_ble_eq_true rfl⟩) (bv_pV hE hPc (va_recv hK hP (ci := 3) (q0 := 0) rfl rfl)) rfl rfl hl.1 rfl (lv_room (Nat.le_of_ble_eq_true rfl)) dX3_join_20 ⟨Nat.le_of_ble_eq_true rfl, Nat.le_of_ble_eq_true rfl⟩) ?_
      refine lv_iload_n (pc := 23) hx hb dX3_join_23 rfl (lv_at hl 1 rfl) ?_
      refine lv_aload_n (pc := 24) hx hb dX3_join_24 rfl (lv_at hl 0 rfl) ?_
      refine va_get (pc := 25) (D := G) (ci := 3) (v := .ref xp) (C := RX3) (T := TX3) (N := 3) hx hb hts hw1 hown hK hP 0 rfl rfl 0 (by decide) hw0 (fun _ h9 => h9) rfl dX3_join_25 ?_
      refine lv_iconst (pc := 28) (v := 1) hx hb dX3_join_28 (by decide) ?_
      have hPc := hP.sub (ws' := [(xp, .inr (2, [.ref ap, .int (nI pn)])), (ap, .inl (cI, 12, .inl pf))]) [1, 2] rfl
      refine bv_cSi (pc := 29) (E' := (pf (pn - 2))) (va_runV (As := [.int 1]) (rest := [.int i]) ⟨hx, hb, hml, hown, hts⟩ (m_X2_below l G cI xp ap pn pf 1 (by omega) hp) (cwV 1 hts gX3_join_X2_below rfl rfl rfl (by decide +kernel) ⟨Nat.le_of_ble_eq_true rfl, Nat.le_of_ble_eq_true rfl⟩) (bv_pV hE hPc (va_recv hK hP (ci := 2) (q0 := 1) rfl rfl)) rfl rfl hl.1 rfl (lv_room (Nat.le_of_ble_eq_true rfl)) dX3_join_29 ⟨Nat.le_of_ble_eq_true rfl, Nat.le_of_ble_eq_true rfl⟩) (by rw [Nat.sub_sub]) ?_
      refine lv_aload_n (pc := 32) hx hb dX3_join_32 rfl (lv_at hl 0 rfl) ?_
      refine va_get (pc := 33) (D := G) (ci := 3) (v := .ref xp) (C := RX3) (T := TX3) (N := 3) hx hb hts hw1 hown hK hP 0 rfl rfl 0 (by decide) hw0 (fun _ h9 => h9) rfl dX3_join_33 ?_
      refine lv_iconst (pc := 36) (v := 0) hx hb dX3_join_36 (by decide) ?_
      have hPc := hP.sub (ws' := [(xp, .inr (2, [.ref ap, .int (nI pn)])), (ap, .inl (cI, 12, .inl pf))]) [1, 2] rfl
      refine bv_cSi (pc := 37) (E' := (pf (pn - 1))) (va_runV (As := [.int 0]) (rest := [.int (pf (pn - 2)), .int i]) ⟨hx, hb, hml, hown, hts⟩ (m_X2_below l G cI xp ap pn pf 0 (by omega) hp) (cwV 1 hts gX3_join_X2_below rfl rfl rfl (by decide +kernel) ⟨Nat.le_of_ble_eq_true rfl, Nat.le_of_ble_eq_true rfl⟩) (bv_pV hE hPc (va_recv hK hP (ci := 2) (q0 := 1) rfl rfl)) rfl rfl hl.1 rfl (lv_room (Nat.le_of_ble_eq_true rfl)) dX3_join_37 ⟨Nat.le_of_ble_eq_true rfl, Nat.le_of_ble_eq_true rfl⟩) (by rw [Nat.sub_zero]) ?_
      have hPc := hP.sub (ws' := []) [] rfl
      refine bv_cSi (pc := 40) (E' := (bv_join i (pf (pn - 2)) (pf (pn - 1)))) (va_runS (As := [.int i, .int (pf (pn - 2)), .int (pf (pn - 1))]) (rest := []) ⟨hx, hb, hml, hown, hts⟩ (m_X3_joined l G cI i (pf (pn - 2)) (pf (pn - 1)) hi) (va_cwS 3 hts gX3_join_X3_joined rfl rfl rfl (by decide +kernel) ⟨Nat.le_of_ble_eq_true rfl, Nat.le_of_ble_eq_true rfl⟩) (bv_pS hE hPc) rfl rfl hl.1 rfl (lv_room (Nat.le_of_ble_eq_true rfl)) dX3_join_40 ⟨Nat.le_of_ble_eq_true rfl, Nat.le_of_ble_eq_true rfl⟩) rfl ?_
      refine lv_istore_n (pc := 43) (lv' := [(2, .int (bv_join i (pf (pn - 2)) (pf (pn - 1)))), (0, .ref x), (1, .int i)]) hx hb dX3_join_43 rfl hl (by decide) rfl (fun ls hl => ?_)
      refine lv_aload_n (pc := 44) hx hb dX3_join_44 rfl (lv_at hl 1 rfl) ?_
      refine va_get (pc := 45) (D := G) (ci := 3) (v := .ref xp) (C := RX3) (T := TX3) (N := 3) hx hb hts hw1 hown hK hP 0 rfl rfl 0 (by decide) hw0 (fun _ h9 => h9) rfl dX3_join_45 ?_
      refine lv_iconst (pc := 48) (v := 2) hx hb dX3_join_48 (by decide) ?_
      refine lv_iload_n (pc := 49) hx hb dX3_join_49 rfl (lv_at hl 0 rfl) ?_
      have hPc := hP.sub (ws' := [(xp, .inr (2, [.ref ap, .int (nI pn)])), (ap, .inl (cI, 12, .inl pf))]) [1, 2] rfl
      have hDc := hD.sub (ws' := [(xp, .inr (2, [.ref ap, .int (nI pn)])), (ap, .inl (cI, 12, .inl pf))]) [1, 2] (by decide) rfl
      have hFc := va_free (wc := [(xp, .inr (2, [.ref ap, .int (nI pn)])), (ap, .inl (cI, 12, .inl pf))]) hD hS hA [1, 2] rfl
      refine va_callv (pc := 50) (va_runV (As := [.int 2, .int (bv_join i (pf (pn - 2)) (pf (pn - 1)))]) (rest := []) ⟨hx, hb, hml, hown, hts⟩ (m_X2_replace l G cI s.heap.size xp ap pn pf 2 (bv_join i (pf (pn - 2)) (pf (pn - 1))) (by decide) h2 hp) (cwV 2 hts gX3_join_X2_replace rfl rfl rfl (by decide +kernel) ⟨Nat.le_of_ble_eq_true rfl, Nat.le_of_ble_eq_true rfl⟩) (bv_pV hE ⟨rfl, hPc, hDc.weaken (fun _ _ _ _ => trivial)⟩ (va_recv hK hP (ci := 2) (q0 := 1) rfl rfl)) rfl rfl hl.1 rfl (lv_room (Nat.le_of_ble_eq_true rfl)) dX3_join_50 ⟨Nat.le_of_ble_eq_true rfl, Nat.le_of_ble_eq_true rfl⟩) hS (fun q _ h => hFc q h) hFc (fun u8 t8 H1 locs ht8 hvm8 e_12 hB8 hz1 hk1 hS => ?_)
      have hP1 : va_P G vwCl [(xp, .inr (2, [.ref ap, .int (nI (pn - 2 + 1))])), (ap, .inl (cI, 12, .inl (upd pf (pn - 2) (bv_join i (pf (pn - 2)) (pf (pn - 1))))))] H1 := by rw [← ht8]; exact hB8
      obtain ⟨hP, hD⟩ := va_join (wr := [(x, .inr (3, [.ref xp, .ref xb, .ref xm])), (xb, .inr (0, [.ref as, .ref ar, .ref am, .int (nI bn)])), (as, .inl (cI, 10, .inl bs)), (ar, .inl (cI, 10, .inl br)), (am, .inl (cI, 1024, .inl mt)), (xm, .inr (1, [.ref al, .ref ak])), (al, .inl (cI, 16, .inl lv)), (ak, .inl (cI, 16, .inl ks))]) (w1 := [(xp, .inr (2, [.ref ap, .int (nI (pn - 2 + 1))])), (ap, .inl (cI, 12, .inl (upd pf (pn - 2) (bv_join i (pf (pn - 2)) (pf (pn - 1))))))]) hP hD [1, 2] [0, 3, 4, 5, 6, 7, 8, 9] rfl rfl (by decide) (by decide) hk1 hFc hP1 (bv_Dm (w0 := [(xp, .inr (2, [.ref ap, .int (nI pn)])), (ap, .inl (cI, 12, .inl pf))]) [xp, ap] rfl rfl hDc.self)
      have hP : va_P G vwCl [(x, .inr (3, [.ref xp, .ref xb, .ref xm])), (xp, .inr (2, [.ref ap, .int (nI (pn - 2 + 1))])), (ap, .inl (cI, 12, .inl (upd pf (pn - 2) (bv_join i (pf (pn - 2)) (pf (pn - 1)))))), (xb, .inr (0, [.ref as, .ref ar, .ref am, .int (nI bn)])), (as, .inl (cI, 10, .inl bs)), (ar, .inl (cI, 10, .inl br)), (am, .inl (cI, 1024, .inl mt)), (xm, .inr (1, [.ref al, .ref ak])), (al, .inl (cI, 16, .inl lv)), (ak, .inl (cI, 16, .inl ks))] H1 := hP.sub (ws' := [(x, .inr (3, [.ref xp, .ref xb, .ref xm])), (xp, .inr (2, [.ref ap, .int (nI (pn - 2 + 1))])), (ap, .inl (cI, 12, .inl (upd pf (pn - 2) (bv_join i (pf (pn - 2)) (pf (pn - 1)))))), (xb, .inr (0, [.ref as, .ref ar, .ref am, .int (nI bn)])), (as, .inl (cI, 10, .inl bs)), (ar, .inl (cI, 10, .inl br)), (am, .inl (cI, 1024, .inl mt)), (xm, .inr (1, [.ref al, .ref ak])), (al, .inl (cI, 16, .inl lv)), (ak, .inl (cI, 16, .inl ks))]) [0, 8, 9, 1, 2, 3, 4, 5, 6, 7] rfl
      have hD : va_D A [(x, .inr (3, [.ref xp, .ref xb, .ref xm])), (xp, .inr (2, [.ref ap, .int (nI (pn - 2 + 1))])), (ap, .inl (cI, 12, .inl (upd pf (pn - 2) (bv_join i (pf (pn - 2)) (pf (pn - 1)))))), (xb, .inr (0, [.ref as, .ref ar, .ref am, .int (nI bn)])), (as, .inl (cI, 10, .inl bs)), (ar, .inl (cI, 10, .inl br)), (am, .inl (cI, 1024, .inl mt)), (xm, .inr (1, [.ref al, .ref ak])), (al, .inl (cI, 16, .inl lv)), (ak, .inl (cI, 16, .inl ks))] := hD.sub (ws' := [(x, .inr (3, [.ref xp, .ref xb, .ref xm])), (xp, .inr (2, [.ref ap, .int (nI (pn - 2 + 1))])), (ap, .inl (cI, 12, .inl (upd pf (pn - 2) (bv_join i (pf (pn - 2)) (pf (pn - 1)))))), (xb, .inr (0, [.ref as, .ref ar, .ref am, .int (nI bn)])), (as, .inl (cI, 10, .inl bs)), (ar, .inl (cI, 10, .inl br)), (am, .inl (cI, 1024, .inl mt)), (xm, .inr (1, [.ref al, .ref ak])), (al, .inl (cI, 16, .inl lv)), (ak, .inl (cI, 16, .inl ks))]) [0, 8, 9, 1, 2, 3, 4, 5, 6, 7] (by decide) rfl
      generalize H1 = H at hP hS ⊢
      refine lv_iload_n (pc := 53) hx hb dX3_join_53 rfl (lv_at hl 0 rfl) ?_
      have hP9 : va_P G vwCl [(x, .inr (3, [.ref xp, .ref xb, .ref xm])), (xp, .inr (2, [.ref ap, .int (nI (pn - 1))])), (ap, .inl (cI, 12, .inl (upd pf (pn - 2) (bv_join i (pf (pn - 2)) (pf (pn - 1)))))), (xb, .inr (0, [.ref as, .ref ar, .ref am, .int (nI bn)])), (as, .inl (cI, 10, .inl bs)), (ar, .inl (cI, 10, .inl br)), (am, .inl (cI, 1024, .inl mt)), (xm, .inr (1, [.ref al, .ref ak])), (al, .inl (cI, 16, .inl lv)), (ak, .inl (cI, 16, .inl ks))] H := by rw [show pn - 2 + 1 = pn - 1 by omega] at hP; exact hP
      exact W.iret (pc := 54) (v := (bv_join i (pf (pn - 2)) (pf (pn - 1)))) hx hb hr (fun T8 hT8 hW8 => ⟨⟨(bv_join i (pf (pn - 2)) (pf (pn - 1))), (), rfl, rfl, bv_hP hT8 hP9⟩, hS.F hT8⟩) hS.2.2 dX3_join_54
    · exact absurd hi.2 c6_2
set_option maxHeartbeats 4000000 in
set_option maxRecDepth 100000 in
theorem m_X3_pop (l : Launch) (G : va_G) (cI : ClassId) (sz : Nat) (x xp ap pn xb as ar am bn xm al ak : Nat) (pf bs br mt lv ks : Nat → Int32) (hp : pn ≤ 12) (hn : bn ≤ 10) (hM : ∀ t, t < 2 ^ bn → mt t = bv_wi bs t bn) (h1 : 1 ≤ pn) : Met l yX3_pop wsX3_pop ({ frames := 3, cells := 0, slots := 0, locals := 62 }) (bv_P [.ref x] G cI (fun H => H.size = sz ∧ va_P G vwCl [(x, .inr (3, [.ref xp, .ref xb, .ref xm])), (xp, .inr (2, [.ref ap, .int (nI pn)])), (ap, .inl (cI, 12, .inl pf)), (xb, .inr (0, [.ref as, .ref ar, .ref am, .int (nI bn)])), (as, .inl (cI, 10, .inl bs)), (ar, .inl (cI, 10, .inl br)), (am, .inl (cI, 1024, .inl mt)), (xm, .inr (1, [.ref al, .ref ak])), (al, .inl (cI, 16, .inl lv)), (ak, .inl (cI, 16, .inl ks))] H ∧ va_D (fun _ => True) [(x, .inr (3, [.ref xp, .ref xb, .ref xm])), (xp, .inr (2, [.ref ap, .int (nI pn)])), (ap, .inl (cI, 12, .inl pf)), (xb, .inr (0, [.ref as, .ref ar, .ref am, .int (nI bn)])), (as, .inl (cI, 10, .inl bs)), (ar, .inl (cI, 10, .inl br)), (am, .inl (cI, 1024, .inl mt)), (xm, .inr (1, [.ref al, .ref ak])), (al, .inl (cI, 16, .inl lv)), (ak, .inl (cI, 16, .inl ks))])) (va_Qi (fun (r9 : Int32) (_ : Unit) => r9 = (nI (pn - 1))) (fun (_ : Unit) (T9 : State) => va_P G vwCl [(x, .inr (3, [.ref xp, .ref xb, .ref xm])), (xp, .inr (2, [.ref ap, .int (nI (pn - 1))])), (ap, .inl (cI, 12, .inl pf)), (xb, .inr (0, [.ref as, .ref ar, .ref am, .int (nI bn)])), (as, .inl (cI, 10, .inl bs)), (ar, .inl (cI, 10, .inl br)), (am, .inl (cI, 1024, .inl mt)), (xm, .inr (1, [.ref al, .ref ak])), (al, .inl (cI, 16, .inl lv)), (ak, .inl (cI, 16, .inl ks))] T9.heap) (va_A [(x, .inr (3, [.ref xp, .ref xb, .ref xm])), (xp, .inr (2, [.ref ap, .int (nI pn)])), (ap, .inl (cI, 12, .inl pf)), (xb, .inr (0, [.ref as, .ref ar, .ref am, .int (nI bn)])), (as, .inl (cI, 10, .inl bs)), (ar, .inl (cI, 10, .inl br)), (am, .inl (cI, 1024, .inl mt)), (xm, .inr (1, [.ref al, .ref ak])), (al, .inl (cI, 16, .inl lv)), (ak, .inl (cI, 16, .inl ks))] sz)) 0 0 (va_A [(x, .inr (3, [.ref xp, .ref xb, .ref xm])), (xp, .inr (2, [.ref ap, .int (nI pn)])), (ap, .inl (cI, 12, .inl pf)), (xb, .inr (0, [.ref as, .ref ar, .ref am, .int (nI bn)])), (as, .inl (cI, 10, .inl bs)), (ar, .inl (cI, 10, .inl br)), (am, .inl (cI, 1024, .inl mt)), (xm, .inr (1, [.ref al, .ref ak])), (al, .inl (cI, 16, .inl lv)), (ak, .inl (cI, 16, .inl ks))] sz) := by
  refine Met.ofW (cc := cX3_pop) (maxL := 1) (ret := (some .int)) (by decide) rfl ?_
  intro p e s m args below meth c s₁ B hml hv
  obtain ⟨rfl, ⟨hsz, hP, hD0⟩, hE⟩ := hv
  have hx := B.exec
  have hb := B.bytes
  have hr := B.returns
  have hts := atoms_spec (ws := wsX3_pop) B.pre
  have hown : s.vm.findClass RX3 = some m.cls := findClass_of_methodNamed B.named
  have hlocks := B.notSynchronized
  have hK := hE.1
  have hw0 := hts (.fieldLink RX3 12 "BeliefReviser" "pile" "LBeliefReviser$Pile;") (List.mem_of_getElem? (i := 1) rfl)
  have hw1 : ∀ w ∈ u_ws RX3 TX3 3, w ∈ wsX3_pop := by decide +kernel
  subst hsz
  have hD := hD0.self (sz := s.heap.size)
  generalize hAe : va_A [(x, .inr (3, [.ref xp, .ref xb, .ref xm])), (xp, .inr (2, [.ref ap, .int (nI pn)])), (ap, .inl (cI, 12, .inl pf)), (xb, .inr (0, [.ref as, .ref ar, .ref am, .int (nI bn)])), (as, .inl (cI, 10, .inl bs)), (ar, .inl (cI, 10, .inl br)), (am, .inl (cI, 1024, .inl mt)), (xm, .inr (1, [.ref al, .ref ak])), (al, .inl (cI, 16, .inl lv)), (ak, .inl (cI, 16, .inl ks))] s.heap.size = A at hD ⊢
  have hA : ∀ q : Nat, s.heap.size ≤ q → A q := fun q h => by rw [← hAe]; exact Or.inr h
  have hS : va_S A s.heap s.heap [] := va_S.rf
  have hP : va_P G vwCl [(x, .inr (3, [.ref xp, .ref xb, .ref xm])), (xp, .inr (2, [.ref ap, .int (nI pn)])), (ap, .inl (cI, 12, .inl pf)), (xb, .inr (0, [.ref as, .ref ar, .ref am, .int (nI bn)])), (as, .inl (cI, 10, .inl bs)), (ar, .inl (cI, 10, .inl br)), (am, .inl (cI, 1024, .inl mt)), (xm, .inr (1, [.ref al, .ref ak])), (al, .inl (cI, 16, .inl lv)), (ak, .inl (cI, 16, .inl ks))] s.heap := hP
  have hl := lv_entry ([.ref x]) (n := 1) (Nat.le_of_ble_eq_true rfl)
  rw [lg_entry_eq]
  generalize (lg_sl ([.ref x]) ++ List.replicate (1 - (lg_sl ([.ref x])).length) Slot.unset).toArray = ls at hl ⊢
  have hl : lv_has ls 1 [(0, .ref x)] := hl
  refine lv_aload_n (pc := 0) hx hb dX3_pop_0 rfl (lv_at hl 0 rfl) ?_
  have hPc := hP.sub (ws' := [(x, .inr (3, [.ref xp, .ref xb, .ref xm])), (xp, .inr (2, [.ref ap, .int (nI pn)])), (ap, .inl (cI, 12, .inl pf)), (xb, .inr (0, [.ref as, .ref ar, .ref am, .int (nI bn)])), (as, .inl (cI, 10, .inl bs)), (ar, .inl (cI, 10, .inl br)), (am, .inl (cI, 1024, .inl mt)), (xm, .inr (1, [.ref al, .ref ak])), (al, .inl (cI, 16, .inl lv)), (ak, .inl (cI, 16, .inl ks))]) [0, 1, 2, 3, 4, 5, 6, 7, 8, 9] rfl
  refine bv_cSi (pc := 1) (E' := (pf (pn - 1))) (va_runV (As := []) (rest := []) ⟨hx, hb, hml, hown, hts⟩ (m_X3_requireTop l G cI x xp ap pn xb as ar am bn xm al ak pf bs br mt lv ks (by first | assumption | omega) (by first | assumption | omega)) (cwV 0 hts gX3_pop_X3_requireTop rfl rfl rfl (by decide +kernel) ⟨Nat.le_of_ble_eq_true rfl, Nat.le_of_ble_eq_true rfl⟩) (bv_pV hE hPc (va_recv hK hP (ci := 3) (q0 := 0) rfl rfl)) rfl rfl hl.1 rfl (lv_room (Nat.le_of_ble_eq_true rfl)) dX3_pop_1 ⟨Nat.le_of_ble_eq_true rfl, Nat.le_of_ble_eq_true rfl⟩) rfl ?_
  refine lv_pop (pc := 4) hx hb dX3_pop_4 rfl ?_
  refine lv_aload_n (pc := 5) hx hb dX3_pop_5 rfl (lv_at hl 0 rfl) ?_
  refine va_get (pc := 6) (D := G) (ci := 3) (v := .ref xp) (C := RX3) (T := TX3) (N := 3) hx hb hts hw1 hown hK hP 0 rfl rfl 0 (by decide) hw0 (fun _ h9 => h9) rfl dX3_pop_6 ?_
  refine lv_iconst (pc := 9) (v := 1) hx hb dX3_pop_9 (by decide) ?_
  have hPc := hP.sub (ws' := [(xp, .inr (2, [.ref ap, .int (nI pn)])), (ap, .inl (cI, 12, .inl pf))]) [1, 2] rfl
  have hDc := hD.sub (ws' := [(xp, .inr (2, [.ref ap, .int (nI pn)])), (ap, .inl (cI, 12, .inl pf))]) [1, 2] (by decide) rfl
  have hFc := va_free (wc := [(xp, .inr (2, [.ref ap, .int (nI pn)])), (ap, .inl (cI, 12, .inl pf))]) hD hS hA [1, 2] rfl
  refine va_callv (pc := 10) (va_runV (As := [.int 1]) (rest := []) ⟨hx, hb, hml, hown, hts⟩ (m_X2_take l G cI s.heap.size xp ap pn pf 1 h1 hp) (cwV 1 hts gX3_pop_X2_take rfl rfl rfl (by decide +kernel) ⟨Nat.le_of_ble_eq_true rfl, Nat.le_of_ble_eq_true rfl⟩) (bv_pV hE ⟨rfl, hPc, hDc.weaken (fun _ _ _ _ => trivial)⟩ (va_recv hK hP (ci := 2) (q0 := 1) rfl rfl)) rfl rfl hl.1 rfl (lv_room (Nat.le_of_ble_eq_true rfl)) dX3_pop_10 ⟨Nat.le_of_ble_eq_true rfl, Nat.le_of_ble_eq_true rfl⟩) hS (fun q _ h => hFc q h) hFc (fun u8 t8 H1 locs ht8 hvm8 e_4 hB8 hz1 hk1 hS => ?_)
  have hP1 : va_P G vwCl [(xp, .inr (2, [.ref ap, .int (nI (pn - 1))])), (ap, .inl (cI, 12, .inl pf))] H1 := by rw [← ht8]; exact hB8
  obtain ⟨hP, hD⟩ := va_join (wr := [(x, .inr (3, [.ref xp, .ref xb, .ref xm])), (xb, .inr (0, [.ref as, .ref ar, .ref am, .int (nI bn)])), (as, .inl (cI, 10, .inl bs)), (ar, .inl (cI, 10, .inl br)), (am, .inl (cI, 1024, .inl mt)), (xm, .inr (1, [.ref al, .ref ak])), (al, .inl (cI, 16, .inl lv)), (ak, .inl (cI, 16, .inl ks))]) (w1 := [(xp, .inr (2, [.ref ap, .int (nI (pn - 1))])), (ap, .inl (cI, 12, .inl pf))]) hP hD [1, 2] [0, 3, 4, 5, 6, 7, 8, 9] rfl rfl (by decide) (by decide) hk1 hFc hP1 (bv_Dm (w0 := [(xp, .inr (2, [.ref ap, .int (nI pn)])), (ap, .inl (cI, 12, .inl pf))]) [xp, ap] rfl rfl hDc.self)
  have hP : va_P G vwCl [(x, .inr (3, [.ref xp, .ref xb, .ref xm])), (xp, .inr (2, [.ref ap, .int (nI (pn - 1))])), (ap, .inl (cI, 12, .inl pf)), (xb, .inr (0, [.ref as, .ref ar, .ref am, .int (nI bn)])), (as, .inl (cI, 10, .inl bs)), (ar, .inl (cI, 10, .inl br)), (am, .inl (cI, 1024, .inl mt)), (xm, .inr (1, [.ref al, .ref ak])), (al, .inl (cI, 16, .inl lv)), (ak, .inl (cI, 16, .inl ks))] H1 := hP.sub (ws' := [(x, .inr (3, [.ref xp, .ref xb, .ref xm])), (xp, .inr (2, [.ref ap, .int (nI (pn - 1))])), (ap, .inl (cI, 12, .inl pf)), (xb, .inr (0, [.ref as, .ref ar, .ref am, .int (nI bn)])), (as, .inl (cI, 10, .inl bs)), (ar, .inl (cI, 10, .inl br)), (am, .inl (cI, 1024, .inl mt)), (xm, .inr (1, [.ref al, .ref ak])), (al, .inl (cI, 16, .inl lv)), (ak, .inl (cI, 16, .inl ks))]) [0, 8, 9, 1, 2, 3, 4, 5, 6, 7] rfl
  have hD : va_D A [(x, .inr (3, [.ref xp, .ref xb, .ref xm])), (xp, .inr (2, [.ref ap, .int (nI (pn - 1))])), (ap, .inl (cI, 12, .inl pf)), (xb, .inr (0, [.ref as, .ref ar, .ref am, .int (nI bn)])), (as, .inl (cI, 10, .inl bs)), (ar, .inl (cI, 10, .inl br)), (am, .inl (cI, 1024, .inl mt)), (xm, .inr (1, [.ref al, .ref ak])), (al, .inl (cI, 16, .inl lv)), (ak, .inl (cI, 16, .inl ks))] := hD.sub (ws' := [(x, .inr (3, [.ref xp, .ref xb, .ref xm])), (xp, .inr (2, [.ref ap, .int (nI (pn - 1))])), (ap, .inl (cI, 12, .inl pf)), (xb, .inr (0, [.ref as, .ref ar, .ref am, .int (nI bn)])), (as, .inl (cI, 10, .inl bs)), (ar, .inl (cI, 10, .inl br)), (am, .inl (cI, 1024, .inl mt)), (xm, .inr (1, [.ref al, .ref ak])), (al, .inl (cI, 16, .inl lv)), (ak, .inl (cI, 16, .inl ks))]) [0, 8, 9, 1, 2, 3, 4, 5, 6, 7] (by decide) rfl
  generalize H1 = H at hP hS ⊢
  refine lv_aload_n (pc := 13) hx hb dX3_pop_13 rfl (lv_at hl 0 rfl) ?_
  refine va_get (pc := 14) (D := G) (ci := 3) (v := .ref xp) (C := RX3) (T := TX3) (N := 3) hx hb hts hw1 hown hK hP 0 rfl rfl 0 (by decide) hw0 (fun _ h9 => h9) rfl dX3_pop_14 ?_
  have hPc := hP.sub (ws' := [(xp, .inr (2, [.ref ap, .int (nI (pn - 1))])), (ap, .inl (cI, 12, .inl pf))]) [1, 2] rfl
  refine bv_cSi (pc := 17) (E' := (nI (pn - 1))) (va_runV (As := []) (rest := []) ⟨hx, hb, hml, hown, hts⟩ (m_X2_count l G cI xp ap (pn - 1) pf ) (cwV 0 hts gX3_pop_X2_count rfl rfl rfl (by decide +kernel) ⟨Nat.le_of_ble_eq_true rfl, Nat.le_of_ble_eq_true rfl⟩) (bv_pV hE hPc (va_recv hK hP (ci := 2) (q0 := 1) rfl rfl)) rfl rfl hl.1 rfl (lv_room (Nat.le_of_ble_eq_true rfl)) dX3_pop_17 ⟨Nat.le_of_ble_eq_true rfl, Nat.le_of_ble_eq_true rfl⟩) rfl ?_
  have hP9 : va_P G vwCl [(x, .inr (3, [.ref xp, .ref xb, .ref xm])), (xp, .inr (2, [.ref ap, .int (nI (pn - 1))])), (ap, .inl (cI, 12, .inl pf)), (xb, .inr (0, [.ref as, .ref ar, .ref am, .int (nI bn)])), (as, .inl (cI, 10, .inl bs)), (ar, .inl (cI, 10, .inl br)), (am, .inl (cI, 1024, .inl mt)), (xm, .inr (1, [.ref al, .ref ak])), (al, .inl (cI, 16, .inl lv)), (ak, .inl (cI, 16, .inl ks))] H := hP
  exact W.iret (pc := 20) (v := (nI (pn - 1))) hx hb hr (fun T8 hT8 hW8 => ⟨⟨(nI (pn - 1)), (), rfl, rfl, bv_hP hT8 hP9⟩, hS.F hT8⟩) hS.2.2 dX3_pop_20
set_option maxHeartbeats 4000000 in
set_option maxRecDepth 100000 in
theorem m_X3_height (l : Launch) (G : va_G) (cI : ClassId) (x xp ap pn xb as ar am bn xm al ak : Nat) (pf bs br mt lv ks : Nat → Int32) (hp : pn ≤ 12) (hn : bn ≤ 10) (hM : ∀ t, t < 2 ^ bn → mt t = bv_wi bs t bn) : Met l yX3_height wsX3_height ({ frames := 1, cells := 0, slots := 0, locals := 20 }) (bv_P [.ref x] G cI (fun H => va_P G vwCl [(x, .inr (3, [.ref xp, .ref xb, .ref xm])), (xp, .inr (2, [.ref ap, .int (nI pn)])), (ap, .inl (cI, 12, .inl pf)), (xb, .inr (0, [.ref as, .ref ar, .ref am, .int (nI bn)])), (as, .inl (cI, 10, .inl bs)), (ar, .inl (cI, 10, .inl br)), (am, .inl (cI, 1024, .inl mt)), (xm, .inr (1, [.ref al, .ref ak])), (al, .inl (cI, 16, .inl lv)), (ak, .inl (cI, 16, .inl ks))] H)) (vp_Si (fun r9 : Int32 => r9 = (nI pn))) 0 0 (fun _ => False) := by
  refine Met.ofW (cc := cX3_height) (maxL := 1) (ret := (some .int)) (by decide) rfl ?_
  intro p e s m args below meth c s₁ B hml hv
  obtain ⟨rfl, hP, hE⟩ := hv
  have hx := B.exec
  have hb := B.bytes
  have hr := B.returns
  have hts := atoms_spec (ws := wsX3_height) B.pre
  have hown : s.vm.findClass RX3 = some m.cls := findClass_of_methodNamed B.named
  have hlocks := B.notSynchronized
  have hK := hE.1
  have hw0 := hts (.fieldLink RX3 12 "BeliefReviser" "pile" "LBeliefReviser$Pile;") (List.mem_of_getElem? (i := 1) rfl)
  have hw1 : ∀ w ∈ u_ws RX3 TX3 3, w ∈ wsX3_height := by decide +kernel
  have hP : va_P G vwCl [(x, .inr (3, [.ref xp, .ref xb, .ref xm])), (xp, .inr (2, [.ref ap, .int (nI pn)])), (ap, .inl (cI, 12, .inl pf)), (xb, .inr (0, [.ref as, .ref ar, .ref am, .int (nI bn)])), (as, .inl (cI, 10, .inl bs)), (ar, .inl (cI, 10, .inl br)), (am, .inl (cI, 1024, .inl mt)), (xm, .inr (1, [.ref al, .ref ak])), (al, .inl (cI, 16, .inl lv)), (ak, .inl (cI, 16, .inl ks))] s.heap := hP
  have hl := lv_entry ([.ref x]) (n := 1) (Nat.le_of_ble_eq_true rfl)
  rw [lg_entry_eq]
  generalize (lg_sl ([.ref x]) ++ List.replicate (1 - (lg_sl ([.ref x])).length) Slot.unset).toArray = ls at hl ⊢
  have hl : lv_has ls 1 [(0, .ref x)] := hl
  refine lv_aload_n (pc := 0) hx hb dX3_height_0 rfl (lv_at hl 0 rfl) ?_
  refine va_get (pc := 1) (D := G) (ci := 3) (v := .ref xp) (C := RX3) (T := TX3) (N := 3) hx hb hts hw1 hown hK hP 0 rfl rfl 0 (by decide) hw0 (fun _ h9 => h9) rfl dX3_height_1 ?_
  have hPc := hP.sub (ws' := [(xp, .inr (2, [.ref ap, .int (nI pn)])), (ap, .inl (cI, 12, .inl pf))]) [1, 2] rfl
  refine bv_cSi (pc := 4) (E' := (nI pn)) (va_runV (As := []) (rest := []) ⟨hx, hb, hml, hown, hts⟩ (m_X2_count l G cI xp ap pn pf ) (cwV 0 hts gX3_height_X2_count rfl rfl rfl (by decide +kernel) ⟨Nat.le_of_ble_eq_true rfl, Nat.le_of_ble_eq_true rfl⟩) (bv_pV hE hPc (va_recv hK hP (ci := 2) (q0 := 1) rfl rfl)) rfl rfl hl.1 rfl (lv_room (Nat.le_of_ble_eq_true rfl)) dX3_height_4 ⟨Nat.le_of_ble_eq_true rfl, Nat.le_of_ble_eq_true rfl⟩) rfl ?_
  exact W.iret (pc := 7) (v := (nI pn)) hx hb hr (fun T8 hT8 hW8 => ⟨(nI pn), rfl, rfl, hT8⟩) (fun _ h => nomatch h) dX3_height_7
set_option maxHeartbeats 4000000 in
set_option maxRecDepth 100000 in
theorem m_X3_top (l : Launch) (G : va_G) (cI : ClassId) (x xp ap pn xb as ar am bn xm al ak : Nat) (pf bs br mt lv ks : Nat → Int32) (hp : pn ≤ 12) (hn : bn ≤ 10) (hM : ∀ t, t < 2 ^ bn → mt t = bv_wi bs t bn) (h1 : 1 ≤ pn) : Met l yX3_top wsX3_top ({ frames := 3, cells := 0, slots := 0, locals := 62 }) (bv_P [.ref x] G cI (fun H => va_P G vwCl [(x, .inr (3, [.ref xp, .ref xb, .ref xm])), (xp, .inr (2, [.ref ap, .int (nI pn)])), (ap, .inl (cI, 12, .inl pf)), (xb, .inr (0, [.ref as, .ref ar, .ref am, .int (nI bn)])), (as, .inl (cI, 10, .inl bs)), (ar, .inl (cI, 10, .inl br)), (am, .inl (cI, 1024, .inl mt)), (xm, .inr (1, [.ref al, .ref ak])), (al, .inl (cI, 16, .inl lv)), (ak, .inl (cI, 16, .inl ks))] H)) (vp_Si (fun r9 : Int32 => r9 = (pf (pn - 1)))) 0 0 (fun _ => False) := by
  refine Met.ofW (cc := cX3_top) (maxL := 1) (ret := (some .int)) (by decide) rfl ?_
  intro p e s m args below meth c s₁ B hml hv
  obtain ⟨rfl, hP, hE⟩ := hv
  have hx := B.exec
  have hb := B.bytes
  have hr := B.returns
  have hts := atoms_spec (ws := wsX3_top) B.pre
  have hown : s.vm.findClass RX3 = some m.cls := findClass_of_methodNamed B.named
  have hlocks := B.notSynchronized
  have hK := hE.1
  have hP : va_P G vwCl [(x, .inr (3, [.ref xp, .ref xb, .ref xm])), (xp, .inr (2, [.ref ap, .int (nI pn)])), (ap, .inl (cI, 12, .inl pf)), (xb, .inr (0, [.ref as, .ref ar, .ref am, .int (nI bn)])), (as, .inl (cI, 10, .inl bs)), (ar, .inl (cI, 10, .inl br)), (am, .inl (cI, 1024, .inl mt)), (xm, .inr (1, [.ref al, .ref ak])), (al, .inl (cI, 16, .inl lv)), (ak, .inl (cI, 16, .inl ks))] s.heap := hP
  have hl := lv_entry ([.ref x]) (n := 1) (Nat.le_of_ble_eq_true rfl)
  rw [lg_entry_eq]
  generalize (lg_sl ([.ref x]) ++ List.replicate (1 - (lg_sl ([.ref x])).length) Slot.unset).toArray = ls at hl ⊢
  have hl : lv_has ls 1 [(0, .ref x)] := hl
  refine lv_aload_n (pc := 0) hx hb dX3_top_0 rfl (lv_at hl 0 rfl) ?_
  have hPc := hP.sub (ws' := [(x, .inr (3, [.ref xp, .ref xb, .ref xm])), (xp, .inr (2, [.ref ap, .int (nI pn)])), (ap, .inl (cI, 12, .inl pf)), (xb, .inr (0, [.ref as, .ref ar, .ref am, .int (nI bn)])), (as, .inl (cI, 10, .inl bs)), (ar, .inl (cI, 10, .inl br)), (am, .inl (cI, 1024, .inl mt)), (xm, .inr (1, [.ref al, .ref ak])), (al, .inl (cI, 16, .inl lv)), (ak, .inl (cI, 16, .inl ks))]) [0, 1, 2, 3, 4, 5, 6, 7, 8, 9] rfl
  refine bv_cSi (pc := 1) (E' := (pf (pn - 1))) (va_runV (As := []) (rest := []) ⟨hx, hb, hml, hown, hts⟩ (m_X3_requireTop l G cI x xp ap pn xb as ar am bn xm al ak pf bs br mt lv ks (by first | assumption | omega) (by first | assumption | omega)) (cwV 0 hts gX3_top_X3_requireTop rfl rfl rfl (by decide +kernel) ⟨Nat.le_of_ble_eq_true rfl, Nat.le_of_ble_eq_true rfl⟩) (bv_pV hE hPc (va_recv hK hP (ci := 3) (q0 := 0) rfl rfl)) rfl rfl hl.1 rfl (lv_room (Nat.le_of_ble_eq_true rfl)) dX3_top_1 ⟨Nat.le_of_ble_eq_true rfl, Nat.le_of_ble_eq_true rfl⟩) rfl ?_
  exact W.iret (pc := 4) (v := (pf (pn - 1))) hx hb hr (fun T8 hT8 hW8 => ⟨(pf (pn - 1)), rfl, rfl, hT8⟩) (fun _ h => nomatch h) dX3_top_4
