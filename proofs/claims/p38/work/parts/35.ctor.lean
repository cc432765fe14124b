set_option maxHeartbeats 4000000 in
set_option maxRecDepth 100000 in
theorem m_X2_init (l : Launch) (G : va_G) (cI : ClassId) (sz : Nat) (xp : Nat) : Met l yX2_init wsX2_init ({ frames := 1, cells := 1, slots := 12, locals := 21 }) (bv_P [.ref xp] G cI (fun H => H.size = sz ∧ va_P G vwCl [(xp, .inr (2, [.null, .int 0]))] H ∧ va_D (fun _ => True) [(xp, .inr (2, [.null, .int 0]))])) (va_Qv (fun _ : Unit => True) (fun (_ : Unit) (T9 : State) => ∃ ap : Nat, va_P G vwCl [(xp, .inr (2, [.ref ap, .int 0])), (ap, .inl (cI, 12, .inl (fun _ => 0)))] T9.heap ∧ va_D (va_A [(xp, .inr (2, [.null, .int 0]))] sz) [(xp, .inr (2, [.ref ap, .int 0])), (ap, .inl (cI, 12, .inl (fun _ => 0)))]) (va_A [(xp, .inr (2, [.null, .int 0]))] sz)) 1 12 (va_A [(xp, .inr (2, [.null, .int 0]))] sz) := by
  refine Met.ofW (cc := cX2_init) (maxL := 1) (ret := none) (by decide) rfl ?_
  intro p e s m args below meth c s₁ B hml hv
  obtain ⟨rfl, ⟨hsz, hP, hD0⟩, hE⟩ := hv
  have hx := B.exec
  have hb := B.bytes
  have hr := B.returns
  have hts := atoms_spec (ws := wsX2_init) B.pre
  have hown : s.vm.findClass RX2 = some m.cls := findClass_of_methodNamed B.named
  have hlocks := B.notSynchronized
  have hK := hE.1
  have hw0 := hts (.methodLink RX2 3 objectInit) (List.mem_of_getElem? (i := 1) rfl)
  have hw1 := hts (.instanceMethod objectInit) (List.mem_of_getElem? (i := 2) rfl)
  have hw2 := hts (.code objectInit ⟨#[0xb1]⟩ 1 none) (List.mem_of_getElem? (i := 3) rfl)
  have hw3 := hts (.arrayClass .int) (List.mem_of_getElem? (i := 4) rfl)
  have hw4 := hts (.fieldLink RX2 9 "BeliefReviser$Pile" "sentences" "[I") (List.mem_of_getElem? (i := 5) rfl)
  have hw5 : ∀ w ∈ u_ws RX2 TX2 2, w ∈ wsX2_init := by decide +kernel
  have hw6 := hts (.fieldLink RX2 15 "BeliefReviser$Pile" "count" "I") (List.mem_of_getElem? (i := 6) rfl)
  have hin : meth.name = "<init>" := (name_of_methodNamed B.named B.method).1
  subst hsz
  have hD := hD0.self (sz := s.heap.size)
  generalize hAe : va_A [(xp, .inr (2, [.null, .int 0]))] s.heap.size = A at hD ⊢
  have hA : ∀ q : Nat, s.heap.size ≤ q → A q := fun q h => by rw [← hAe]; exact Or.inr h
  have hS : va_S A s.heap s.heap [] := va_S.rf
  have hP : va_P G vwCl [(xp, .inr (2, [.null, .int 0]))] s.heap := hP
  have hl := lv_entry ([.ref xp]) (n := 1) (Nat.le_of_ble_eq_true rfl)
  rw [lg_entry_eq]
  generalize (lg_sl ([.ref xp]) ++ List.replicate (1 - (lg_sl ([.ref xp])).length) Slot.unset).toArray = ls at hl ⊢
  have hl : lv_has ls 1 [(0, .ref xp)] := hl
  refine lv_aload_n (pc := 0) hx hb dX2_init_0 rfl (lv_at hl 0 rfl) ?_
  refine W.objInit hx hb hown hw0 hw1 hw2 rfl (by rw [hml]; exact hl.1) rfl dX2_init_1 (Nat.le_of_ble_eq_true rfl) (Nat.le_of_ble_eq_true rfl) ?_
  refine W.eq (g2 := F0 m 4 ls []) rfl ?_
  refine lv_aload_n (pc := 4) hx hb dX2_init_4 rfl (lv_at hl 0 rfl) ?_
  refine lv_bipush (pc := 5) (v := 12) hx hb dX2_init_5 (by decide) ?_
  refine va_newa (pc := 7) (atype := .int) hx hb hw3 rfl hK hP hD hS hA (a0 := (12, .inl (fun _ => 0))) (fun _ => rfl) (by decide) rfl (by decide) (Nat.le_of_ble_eq_true rfl) (Nat.le_of_ble_eq_true rfl) dX2_init_7 (fun q_1 cA_2 H hK9 hP hD hS => ?_)
  obtain rfl := (bv_cI hK9).symm
  have hP : va_P G vwCl [(xp, .inr (2, [.null, .int 0])), (q_1, .inl (cI, 12, .inl (fun _ => 0)))] H := hP
  have hD : va_D A [(xp, .inr (2, [.null, .int 0])), (q_1, .inl (cI, 12, .inl (fun _ => 0)))] := hD
  refine W.widen (k := 1) (n := 12) (by omega) (by omega) ?_
  refine va_putF (pc := 9) (D := G) (ci := 2) (v := .ref q_1) (ty := (.array .int)) (C := RX2) (T := TX2) (N := 2) hx hb hts hw5 tyX2 tyX2_ok nmX2 hown hK hP hD hS 0 rfl rfl 0 (by decide) hw4 (fun _ h9 => h9) rfl hin rfl (by decide +kernel) rfl rfl (Nat.le_of_ble_eq_true rfl) dX2_init_9 (fun H locs hP hD hS => ?_)
  have hP : va_P G vwCl [(xp, .inr (2, [.ref q_1, .int 0])), (q_1, .inl (cI, 12, .inl (fun _ => 0)))] H := hP
  have hD : va_D A [(xp, .inr (2, [.ref q_1, .int 0])), (q_1, .inl (cI, 12, .inl (fun _ => 0)))] := hD
  refine lv_aload_n (pc := 12) hx hb dX2_init_12 rfl (lv_at hl 0 rfl) ?_
  refine lv_iconst (pc := 13) (v := 0) hx hb dX2_init_13 (by decide) ?_
  refine va_put (pc := 14) (D := G) (ci := 2) (v := .int 0) (ty := .int) (C := RX2) (T := TX2) (N := 2) hx hb hts hw5 tyX2 tyX2_ok nmX2 hown hK hP hD hS 0 rfl rfl 1 (by decide) hw6 (fun _ h9 => h9) rfl (by decide +kernel) rfl rfl (Nat.le_of_ble_eq_true rfl) dX2_init_14 (fun H locs hP hD hS => ?_)
  have hP : va_P G vwCl [(xp, .inr (2, [.ref q_1, .int 0])), (q_1, .inl (cI, 12, .inl (fun _ => 0)))] H := hP
  have hD : va_D A [(xp, .inr (2, [.ref q_1, .int 0])), (q_1, .inl (cI, 12, .inl (fun _ => 0)))] := hD
  have hP9 : va_P G vwCl [(xp, .inr (2, [.ref q_1, .int 0])), (q_1, .inl (cI, 12, .inl (fun _ => 0)))] H := hP
  have hD9 : va_D A [(xp, .inr (2, [.ref q_1, .int 0])), (q_1, .inl (cI, 12, .inl (fun _ => 0)))] := hD
  refine W.widen (k := 1) (n := 12) (by decide) (by decide) ?_
  exact W.vret (pc := 17) hx hb hr (fun T8 hT8 hW8 => ⟨⟨(), rfl, trivial, q_1, bv_hP hT8 hP9, hD9⟩, hS.F hT8⟩) hS.2.2 dX2_init_17
set_option maxHeartbeats 4000000 in
set_option maxRecDepth 100000 in
theorem m_X0_init (l : Launch) (G : va_G) (cI : ClassId) (sz : Nat) (xb : Nat) : Met l yX0_init wsX0_init ({ frames := 1, cells := 3, slots := 1044, locals := 22 }) (bv_P [.ref xb] G cI (fun H => H.size = sz ∧ va_P G vwCl [(xb, .inr (0, [.null, .null, .null, .int 0]))] H ∧ va_D (fun _ => True) [(xb, .inr (0, [.null, .null, .null, .int 0]))])) (va_Qv (fun _ : Unit => True) (fun (_ : Unit) (T9 : State) => ∃ as ar am : Nat, va_P G vwCl [(xb, .inr (0, [.ref as, .ref ar, .ref am, .int 0])), (as, .inl (cI, 10, .inl (fun _ => 0))), (ar, .inl (cI, 10, .inl (fun _ => 0))), (am, .inl (cI, 1024, .inl (upd (fun _ => 0) 0 65535)))] T9.heap ∧ va_D (va_A [(xb, .inr (0, [.null, .null, .null, .int 0]))] sz) [(xb, .inr (0, [.ref as, .ref ar, .ref am, .int 0])), (as, .inl (cI, 10, .inl (fun _ => 0))), (ar, .inl (cI, 10, .inl (fun _ => 0))), (am, .inl (cI, 1024, .inl (upd (fun _ => 0) 0 65535)))]) (va_A [(xb, .inr (0, [.null, .null, .null, .int 0]))] sz)) 3 1044 (va_A [(xb, .inr (0, [.null, .null, .null, .int 0]))] sz) := by
  refine Met.ofW (cc := cX0_init) (maxL := 1) (ret := none) (by decide) rfl ?_
  intro p e s m args below meth c s₁ B hml hv
  obtain ⟨rfl, ⟨hsz, hP, hD0⟩, hE⟩ := hv
  have hx := B.exec
  have hb := B.bytes
  have hr := B.returns
  have hts := atoms_spec (ws := wsX0_init) B.pre
  have hown : s.vm.findClass RX0 = some m.cls := findClass_of_methodNamed B.named
  have hlocks := B.notSynchronized
  have hK := hE.1
  have hw0 := hts (.methodLink RX0 3 objectInit) (List.mem_of_getElem? (i := 1) rfl)
  have hw1 := hts (.instanceMethod objectInit) (List.mem_of_getElem? (i := 2) rfl)
  have hw2 := hts (.code objectInit ⟨#[0xb1]⟩ 1 none) (List.mem_of_getElem? (i := 3) rfl)
  have hw3 := hts (.arrayClass .int) (List.mem_of_getElem? (i := 4) rfl)
  have hw4 := hts (.fieldLink RX0 9 "BeliefReviser$Base" "sentences" "[I") (List.mem_of_getElem? (i := 5) rfl)
  have hw5 : ∀ w ∈ u_ws RX0 TX0 4, w ∈ wsX0_init := by decide +kernel
  have hw6 := hts (.fieldLink RX0 15 "BeliefReviser$Base" "ranks" "[I") (List.mem_of_getElem? (i := 6) rfl)
  have hw7 := hts (.fieldLink RX0 18 "BeliefReviser$Base" "meets" "[I") (List.mem_of_getElem? (i := 7) rfl)
  have hw8 := hts (.fieldLink RX0 21 "BeliefReviser$Base" "count" "I") (List.mem_of_getElem? (i := 8) rfl)
  have hw9 := hts (.constant RX0 25 65535) (List.mem_of_getElem? (i := 9) rfl)
  have hw10 := hts (.static yX3_put) (List.mem_of_getElem? (i := 10) rfl)
  have hw11 := hts (.initialized RX3) (List.mem_of_getElem? (i := 11) rfl)
  have hw12 : va_Nw (.methodLinkNest RX0 26 yX3_put RX3) s := hE.2 (RX0, 26, yX3_put) (List.mem_of_getElem? (i := 2) rfl)
  have hin : meth.name = "<init>" := (name_of_methodNamed B.named B.method).1
  subst hsz
  have hD := hD0.self (sz := s.heap.size)
  generalize hAe : va_A [(xb, .inr (0, [.null, .null, .null, .int 0]))] s.heap.size = A at hD ⊢
  have hA : ∀ q : Nat, s.heap.size ≤ q → A q := fun q h => by rw [← hAe]; exact Or.inr h
  have hS : va_S A s.heap s.heap [] := va_S.rf
  have hP : va_P G vwCl [(xb, .inr (0, [.null, .null, .null, .int 0]))] s.heap := hP
  have hl := lv_entry ([.ref xb]) (n := 1) (Nat.le_of_ble_eq_true rfl)
  rw [lg_entry_eq]
  generalize (lg_sl ([.ref xb]) ++ List.replicate (1 - (lg_sl ([.ref xb])).length) Slot.unset).toArray = ls at hl ⊢
  have hl : lv_has ls 1 [(0, .ref xb)] := hl
  refine lv_aload_n (pc := 0) hx hb dX0_init_0 rfl (lv_at hl 0 rfl) ?_
  refine W.objInit hx hb hown hw0 hw1 hw2 rfl (by rw [hml]; exact hl.1) rfl dX0_init_1 (Nat.le_of_ble_eq_true rfl) (Nat.le_of_ble_eq_true rfl) ?_
  refine W.eq (g2 := F0 m 4 ls []) rfl ?_
  refine lv_aload_n (pc := 4) hx hb dX0_init_4 rfl (lv_at hl 0 rfl) ?_
  refine lv_bipush (pc := 5) (v := 10) hx hb dX0_init_5 (by decide) ?_
  refine va_newa (pc := 7) (atype := .int) hx hb hw3 rfl hK hP hD hS hA (a0 := (10, .inl (fun _ => 0))) (fun _ => rfl) (by decide) rfl (by decide) (Nat.le_of_ble_eq_true rfl) (Nat.le_of_ble_eq_true rfl) dX0_init_7 (fun q_1 cA_2 H hK9 hP hD hS => ?_)
  obtain rfl := (bv_cI hK9).symm
  have hP : va_P G vwCl [(xb, .inr (0, [.null, .null, .null, .int 0])), (q_1, .inl (cI, 10, .inl (fun _ => 0)))] H := hP
  have hD : va_D A [(xb, .inr (0, [.null, .null, .null, .int 0])), (q_1, .inl (cI, 10, .inl (fun _ => 0)))] := hD
  refine W.widen (k := 1) (n := 10) (by omega) (by omega) ?_
  refine va_putF (pc := 9) (D := G) (ci := 0) (v := .ref q_1) (ty := (.array .int)) (C := RX0) (T := TX0) (N := 4) hx hb hts hw5 tyX0 tyX0_ok nmX0 hown hK hP hD hS 0 rfl rfl 0 (by decide) hw4 (fun _ h9 => h9) rfl hin rfl (by decide +kernel) rfl rfl (Nat.le_of_ble_eq_true rfl) dX0_init_9 (fun H locs hP hD hS => ?_)
  have hP : va_P G vwCl [(xb, .inr (0, [.ref q_1, .null, .null, .int 0])), (q_1, .inl (cI, 10, .inl (fun _ => 0)))] H := hP
  have hD : va_D A [(xb, .inr (0, [.ref q_1, .null, .null, .int 0])), (q_1, .inl (cI, 10, .inl (fun _ => 0)))] := hD
  refine lv_aload_n (pc := 12) hx hb dX0_init_12 rfl (lv_at hl 0 rfl) ?_
  refine lv_bipush (pc := 13) (v := 10) hx hb dX0_init_13 (by decide) ?_
  refine va_newa (pc := 15) (atype := .int) hx hb hw3 rfl hK hP hD hS hA (a0 := (10, .inl (fun _ => 0))) (fun _ => rfl) (by decide) rfl (by decide) (Nat.le_of_ble_eq_true rfl) (Nat.le_of_ble_eq_true rfl) dX0_init_15 (fun q_3 cA_4 H hK9 hP hD hS => ?_)
  obtain rfl := (bv_cI hK9).symm
  have hP : va_P G vwCl [(xb, .inr (0, [.ref q_1, .null, .null, .int 0])), (q_1, .inl (cI, 10, .inl (fun _ => 0))), (q_3, .inl (cI, 10, .inl (fun _ => 0)))] H := hP
  have hD : va_D A [(xb, .inr (0, [.ref q_1, .null, .null, .int 0])), (q_1, .inl (cI, 10, .inl (fun _ => 0))), (q_3, .inl (cI, 10, .inl (fun _ => 0)))] := hD
  refine W.widen (k := 2) (n := 20) (by omega) (by omega) ?_
  refine va_putF (pc := 17) (D := G) (ci := 0) (v := .ref q_3) (ty := (.array .int)) (C := RX0) (T := TX0) (N := 4) hx hb hts hw5 tyX0 tyX0_ok nmX0 hown hK hP hD hS 0 rfl rfl 1 (by decide) hw6 (fun _ h9 => h9) rfl hin rfl (by decide +kernel) rfl rfl (Nat.le_of_ble_eq_true rfl) dX0_init_17 (fun H locs hP hD hS => ?_)
  have hP : va_P G vwCl [(xb, .inr (0, [.ref q_1, .ref q_3, .null, .int 0])), (q_1, .inl (cI, 10, .inl (fun _ => 0))), (q_3, .inl (cI, 10, .inl (fun _ => 0)))] H := hP
  have hD : va_D A [(xb, .inr (0, [.ref q_1, .ref q_3, .null, .int 0])), (q_1, .inl (cI, 10, .inl (fun _ => 0))), (q_3, .inl (cI, 10, .inl (fun _ => 0)))] := hD
  refine lv_aload_n (pc := 20) hx hb dX0_init_20 rfl (lv_at hl 0 rfl) ?_
  refine lv_sipush (pc := 21) (v := 1024) hx hb dX0_init_21 (by decide) ?_
  refine va_newa (pc := 24) (atype := .int) hx hb hw3 rfl hK hP hD hS hA (a0 := (1024, .inl (fun _ => 0))) (fun _ => rfl) (by decide) rfl (by decide) (Nat.le_of_ble_eq_true rfl) (Nat.le_of_ble_eq_true rfl) dX0_init_24 (fun q_5 cA_6 H hK9 hP hD hS => ?_)
  obtain rfl := (bv_cI hK9).symm
  have hP : va_P G vwCl [(xb, .inr (0, [.ref q_1, .ref q_3, .null, .int 0])), (q_1, .inl (cI, 10, .inl (fun _ => 0))), (q_3, .inl (cI, 10, .inl (fun _ => 0))), (q_5, .inl (cI, 1024, .inl (fun _ => 0)))] H := hP
  have hD : va_D A [(xb, .inr (0, [.ref q_1, .ref q_3, .null, .int 0])), (q_1, .inl (cI, 10, .inl (fun _ => 0))), (q_3, .inl (cI, 10, .inl (fun _ => 0))), (q_5, .inl (cI, 1024, .inl (fun _ => 0)))] := hD
  refine W.widen (k := 3) (n := 1044) (by omega) (by omega) ?_
  refine va_putF (pc := 26) (D := G) (ci := 0) (v := .ref q_5) (ty := (.array .int)) (C := RX0) (T := TX0) (N := 4) hx hb hts hw5 tyX0 tyX0_ok nmX0 hown hK hP hD hS 0 rfl rfl 2 (by decide) hw7 (fun _ h9 => h9) rfl hin rfl (by decide +kernel) rfl rfl (Nat.le_of_ble_eq_true rfl) dX0_init_26 (fun H locs hP hD hS => ?_)
  have hP : va_P G vwCl [(xb, .inr (0, [.ref q_1, .ref q_3, .ref q_5, .int 0])), (q_1, .inl (cI, 10, .inl (fun _ => 0))), (q_3, .inl (cI, 10, .inl (fun _ => 0))), (q_5, .inl (cI, 1024, .inl (fun _ => 0)))] H := hP
  have hD : va_D A [(xb, .inr (0, [.ref q_1, .ref q_3, .ref q_5, .int 0])), (q_1, .inl (cI, 10, .inl (fun _ => 0))), (q_3, .inl (cI, 10, .inl (fun _ => 0))), (q_5, .inl (cI, 1024, .inl (fun _ => 0)))] := hD
  refine lv_aload_n (pc := 29) hx hb dX0_init_29 rfl (lv_at hl 0 rfl) ?_
  refine lv_iconst (pc := 30) (v := 0) hx hb dX0_init_30 (by decide) ?_
  refine va_put (pc := 31) (D := G) (ci := 0) (v := .int 0) (ty := .int) (C := RX0) (T := TX0) (N := 4) hx hb hts hw5 tyX0 tyX0_ok nmX0 hown hK hP hD hS 0 rfl rfl 3 (by decide) hw8 (fun _ h9 => h9) rfl (by decide +kernel) rfl rfl (Nat.le_of_ble_eq_true rfl) dX0_init_31 (fun H locs hP hD hS => ?_)
  have hP : va_P G vwCl [(xb, .inr (0, [.ref q_1, .ref q_3, .ref q_5, .int 0])), (q_1, .inl (cI, 10, .inl (fun _ => 0))), (q_3, .inl (cI, 10, .inl (fun _ => 0))), (q_5, .inl (cI, 1024, .inl (fun _ => 0)))] H := hP
  have hD : va_D A [(xb, .inr (0, [.ref q_1, .ref q_3, .ref q_5, .int 0])), (q_1, .inl (cI, 10, .inl (fun _ => 0))), (q_3, .inl (cI, 10, .inl (fun _ => 0))), (q_5, .inl (cI, 1024, .inl (fun _ => 0)))] := hD
  refine lv_aload_n (pc := 34) hx hb dX0_init_34 rfl (lv_at hl 0 rfl) ?_
  refine va_get (pc := 35) (D := G) (ci := 0) (v := .ref q_5) (C := RX0) (T := TX0) (N := 4) hx hb hts hw5 hown hK hP 0 rfl rfl 2 (by decide) hw7 (fun _ h9 => h9) rfl dX0_init_35 ?_
  refine lv_iconst (pc := 38) (v := 0) hx hb dX0_init_38 (by decide) ?_
  refine lv_ldc (pc := 39) hx hb hown hw9 dX0_init_39 ?_
  have hPc := hP.sub (ws' := [(q_5, .inl (cI, 1024, .inl (fun _ => 0)))]) [3] rfl
  have hDc := hD.sub (ws' := [(q_5, .inl (cI, 1024, .inl (fun _ => 0)))]) [3] (by decide) rfl
  have hFc := va_free (wc := [(q_5, .inl (cI, 1024, .inl (fun _ => 0)))]) hD hS hA [3] rfl
  refine va_callv (pc := 41) (va_runSN (As := [.ref q_5, .int 0, .int 65535]) (rest := []) ⟨hx, hb, hml, hown, hts⟩ (m_X3_put l G cI H.size q_5 1024 (fun _ => 0) 0 65535 (by decide)) ⟨va_cnB 3 hts gX0_init_X3_put_n26 rfl rfl rfl hw12 hw11 (by decide +kernel) ⟨Nat.le_of_ble_eq_true rfl, Nat.le_of_ble_eq_true rfl⟩, hw10, trivial⟩ (bv_pS hE ⟨rfl, hPc, hDc.weaken (fun _ _ _ _ => trivial)⟩) rfl rfl hl.1 rfl (lv_room (Nat.le_of_ble_eq_true rfl)) dX0_init_41 ⟨Nat.le_of_ble_eq_true rfl, Nat.le_of_ble_eq_true rfl⟩) hS (fun q _ h => hFc q h) hFc (fun u8 t8 H1 locs ht8 hvm8 e_8 hB8 hz1 hk1 hS => ?_)
  have hP1 : va_P G vwCl [(q_5, .inl (cI, 1024, .inl (bv_put 1024 (fun _ => 0) 0 65535)))] H1 := by rw [← ht8]; exact hB8
  obtain ⟨hP, hD⟩ := va_join (wr := [(xb, .inr (0, [.ref q_1, .ref q_3, .ref q_5, .int 0])), (q_1, .inl (cI, 10, .inl (fun _ => 0))), (q_3, .inl (cI, 10, .inl (fun _ => 0)))]) (w1 := [(q_5, .inl (cI, 1024, .inl (bv_put 1024 (fun _ => 0) 0 65535)))]) hP hD [3] [0, 1, 2] rfl rfl (by decide) (by decide) hk1 hFc hP1 (bv_Dm (w0 := [(q_5, .inl (cI, 1024, .inl (fun _ => 0)))]) [q_5] rfl rfl hDc.self)
  have hP : va_P G vwCl [(xb, .inr (0, [.ref q_1, .ref q_3, .ref q_5, .int 0])), (q_1, .inl (cI, 10, .inl (fun _ => 0))), (q_3, .inl (cI, 10, .inl (fun _ => 0))), (q_5, .inl (cI, 1024, .inl (bv_put 1024 (fun _ => 0) 0 65535)))] H1 := hP.sub (ws' := [(xb, .inr (0, [.ref q_1, .ref q_3, .ref q_5, .int 0])), (q_1, .inl (cI, 10, .inl (fun _ => 0))), (q_3, .inl (cI, 10, .inl (fun _ => 0))), (q_5, .inl (cI, 1024, .inl (bv_put 1024 (fun _ => 0) 0 65535)))]) [0, 1, 2, 3] rfl
  have hD : va_D A [(xb, .inr (0, [.ref q_1, .ref q_3, .ref q_5, .int 0])), (q_1, .inl (cI, 10, .inl (fun _ => 0))), (q_3, .inl (cI, 10, .inl (fun _ => 0))), (q_5, .inl (cI, 1024, .inl (bv_put 1024 (fun _ => 0) 0 65535)))] := hD.sub (ws' := [(xb, .inr (0, [.ref q_1, .ref q_3, .ref q_5, .int 0])), (q_1, .inl (cI, 10, .inl (fun _ => 0))), (q_3, .inl (cI, 10, .inl (fun _ => 0))), (q_5, .inl (cI, 1024, .inl (bv_put 1024 (fun _ => 0) 0 65535)))]) [0, 1, 2, 3] (by decide) rfl
  generalize H1 = H at hP hS ⊢
  rw [show (bv_put 1024 (fun _ => 0) 0 65535) = (upd (fun _ => 0) 0 65535) from bv_put_nI (k := 0) (by decide) (by decide)] at hP hD
  have hP9 : va_P G vwCl [(xb, .inr (0, [.ref q_1, .ref q_3, .ref q_5, .int 0])), (q_1, .inl (cI, 10, .inl (fun _ => 0))), (q_3, .inl (cI, 10, .inl (fun _ => 0))), (q_5, .inl (cI, 1024, .inl (upd (fun _ => 0) 0 65535)))] H := hP
  have hD9 : va_D A [(xb, .inr (0, [.ref q_1, .ref q_3, .ref q_5, .int 0])), (q_1, .inl (cI, 10, .inl (fun _ => 0))), (q_3, .inl (cI, 10, .inl (fun _ => 0))), (q_5, .inl (cI, 1024, .inl (upd (fun _ => 0) 0 65535)))] := hD
  refine W.widen (k := 3) (n := 1044) (by decide) (by decide) ?_
  exact W.vret (pc := 44) hx hb hr (fun T8 hT8 hW8 => ⟨⟨(), rfl, trivial, q_1, q_3, q_5, bv_hP hT8 hP9, hD9⟩, hS.F hT8⟩) hS.2.2 dX0_init_44
set_option maxHeartbeats 4000000 in
set_option maxRecDepth 100000 in
theorem m_X1_init (l : Launch) (G : va_G) (cI : ClassId) (sz : Nat) (xm : Nat) : Met l yX1_init wsX1_init ({ frames := 1, cells := 2, slots := 32, locals := 21 }) (bv_P [.ref xm] G cI (fun H => H.size = sz ∧ va_P G vwCl [(xm, .inr (1, [.null, .null]))] H ∧ va_D (fun _ => True) [(xm, .inr (1, [.null, .null]))])) (va_Qv (fun _ : Unit => True) (fun (_ : Unit) (T9 : State) => ∃ al ak : Nat, va_P G vwCl [(xm, .inr (1, [.ref al, .ref ak])), (al, .inl (cI, 16, .inl (fun _ => 0))), (ak, .inl (cI, 16, .inl (fun _ => 0)))] T9.heap ∧ va_D (va_A [(xm, .inr (1, [.null, .null]))] sz) [(xm, .inr (1, [.ref al, .ref ak])), (al, .inl (cI, 16, .inl (fun _ => 0))), (ak, .inl (cI, 16, .inl (fun _ => 0)))]) (va_A [(xm, .inr (1, [.null, .null]))] sz)) 2 32 (va_A [(xm, .inr (1, [.null, .null]))] sz) := by
  refine Met.ofW (cc := cX1_init) (maxL := 1) (ret := none) (by decide) rfl ?_
  intro p e s m args below meth c s₁ B hml hv
  obtain ⟨rfl, ⟨hsz, hP, hD0⟩, hE⟩ := hv
  have hx := B.exec
  have hb := B.bytes
  have hr := B.returns
  have hts := atoms_spec (ws := wsX1_init) B.pre
  have hown : s.vm.findClass RX1 = some m.cls := findClass_of_methodNamed B.named
  have hlocks := B.notSynchronized
  have hK := hE.1
  have hw0 := hts (.methodLink RX1 3 objectInit) (List.mem_of_getElem? (i := 1) rfl)
  have hw1 := hts (.instanceMethod objectInit) (List.mem_of_getElem? (i := 2) rfl)
  have hw2 := hts (.code objectInit ⟨#[0xb1]⟩ 1 none) (List.mem_of_getElem? (i := 3) rfl)
  have hw3 := hts (.arrayClass .int) (List.mem_of_getElem? (i := 4) rfl)
  have hw4 := hts (.fieldLink RX1 9 "BeliefReviser$Mind" "levels" "[I") (List.mem_of_getElem? (i := 5) rfl)
  have hw5 : ∀ w ∈ u_ws RX1 TX1 2, w ∈ wsX1_init := by decide +kernel
  have hw6 := hts (.fieldLink RX1 15 "BeliefReviser$Mind" "keys" "[I") (List.mem_of_getElem? (i := 6) rfl)
  have hin : meth.name = "<init>" := (name_of_methodNamed B.named B.method).1
  subst hsz
  have hD := hD0.self (sz := s.heap.size)
  generalize hAe : va_A [(xm, .inr (1, [.null, .null]))] s.heap.size = A at hD ⊢
  have hA : ∀ q : Nat, s.heap.size ≤ q → A q := fun q h => by rw [← hAe]; exact Or.inr h
  have hS : va_S A s.heap s.heap [] := va_S.rf
  have hP : va_P G vwCl [(xm, .inr (1, [.null, .null]))] s.heap := hP
  have hl := lv_entry ([.ref xm]) (n := 1) (Nat.le_of_ble_eq_true rfl)
  rw [lg_entry_eq]
  generalize (lg_sl ([.ref xm]) ++ List.replicate (1 - (lg_sl ([.ref xm])).length) Slot.unset).toArray = ls at hl ⊢
  have hl : lv_has ls 1 [(0, .ref xm)] := hl
  refine lv_aload_n (pc := 0) hx hb dX1_init_0 rfl (lv_at hl 0 rfl) ?_
  refine W.objInit hx hb hown hw0 hw1 hw2 rfl (by rw [hml]; exact hl.1) rfl dX1_init_1 (Nat.le_of_ble_eq_true rfl) (Nat.le_of_ble_eq_true rfl) ?_
  refine W.eq (g2 := F0 m 4 ls []) rfl ?_
  refine lv_aload_n (pc := 4) hx hb dX1_init_4 rfl (lv_at hl 0 rfl) ?_
  refine lv_bipush (pc := 5) (v := 16) hx hb dX1_init_5 (by decide) ?_
  refine va_newa (pc := 7) (atype := .int) hx hb hw3 rfl hK hP hD hS hA (a0 := (16, .inl (fun _ => 0))) (fun _ => rfl) (by decide) rfl (by decide) (Nat.le_of_ble_eq_true rfl) (Nat.le_of_ble_eq_true rfl) dX1_init_7 (fun q_1 cA_2 H hK9 hP hD hS => ?_)
  obtain rfl := (bv_cI hK9).symm
  have hP : va_P G vwCl [(xm, .inr (1, [.null, .null])), (q_1, .inl (cI, 16, .inl (fun _ => 0)))] H := hP
  have hD : va_D A [(xm, .inr (1, [.null, .null])), (q_1, .inl (cI, 16, .inl (fun _ => 0)))] := hD
  refine W.widen (k := 1) (n := 16) (by omega) (by omega) ?_
  refine va_putF (pc := 9) (D := G) (ci := 1) (v := .ref q_1) (ty := (.array .int)) (C := RX1) (T := TX1) (N := 2) hx hb hts hw5 tyX1 tyX1_ok nmX1 hown hK hP hD hS 0 rfl rfl 0 (by decide) hw4 (fun _ h9 => h9) rfl hin rfl (by decide +kernel) rfl rfl (Nat.le_of_ble_eq_true rfl) dX1_init_9 (fun H locs hP hD hS => ?_)
  have hP : va_P G vwCl [(xm, .inr (1, [.ref q_1, .null])), (q_1, .inl (cI, 16, .inl (fun _ => 0)))] H := hP
  have hD : va_D A [(xm, .inr (1, [.ref q_1, .null])), (q_1, .inl (cI, 16, .inl (fun _ => 0)))] := hD
  refine lv_aload_n (pc := 12) hx hb dX1_init_12 rfl (lv_at hl 0 rfl) ?_
  refine lv_bipush (pc := 13) (v := 16) hx hb dX1_init_13 (by decide) ?_
  refine va_newa (pc := 15) (atype := .int) hx hb hw3 rfl hK hP hD hS hA (a0 := (16, .inl (fun _ => 0))) (fun _ => rfl) (by decide) rfl (by decide) (Nat.le_of_ble_eq_true rfl) (Nat.le_of_ble_eq_true rfl) dX1_init_15 (fun q_3 cA_4 H hK9 hP hD hS => ?_)
  obtain rfl := (bv_cI hK9).symm
  have hP : va_P G vwCl [(xm, .inr (1, [.ref q_1, .null])), (q_1, .inl (cI, 16, .inl (fun _ => 0))), (q_3, .inl (cI, 16, .inl (fun _ => 0)))] H := hP
  have hD : va_D A [(xm, .inr (1, [.ref q_1, .null])), (q_1, .inl (cI, 16, .inl (fun _ => 0))), (q_3, .inl (cI, 16, .inl (fun _ => 0)))] := hD
  refine W.widen (k := 2) (n := 32) (by omega) (by omega) ?_
  refine va_putF (pc := 17) (D := G) (ci := 1) (v := .ref q_3) (ty := (.array .int)) (C := RX1) (T := TX1) (N := 2) hx hb hts hw5 tyX1 tyX1_ok nmX1 hown hK hP hD hS 0 rfl rfl 1 (by decide) hw6 (fun _ h9 => h9) rfl hin rfl (by decide +kernel) rfl rfl (Nat.le_of_ble_eq_true rfl) dX1_init_17 (fun H locs hP hD hS => ?_)
  have hP : va_P G vwCl [(xm, .inr (1, [.ref q_1, .ref q_3])), (q_1, .inl (cI, 16, .inl (fun _ => 0))), (q_3, .inl (cI, 16, .inl (fun _ => 0)))] H := hP
  have hD : va_D A [(xm, .inr (1, [.ref q_1, .ref q_3])), (q_1, .inl (cI, 16, .inl (fun _ => 0))), (q_3, .inl (cI, 16, .inl (fun _ => 0)))] := hD
  have hP9 : va_P G vwCl [(xm, .inr (1, [.ref q_1, .ref q_3])), (q_1, .inl (cI, 16, .inl (fun _ => 0))), (q_3, .inl (cI, 16, .inl (fun _ => 0)))] H := hP
  have hD9 : va_D A [(xm, .inr (1, [.ref q_1, .ref q_3])), (q_1, .inl (cI, 16, .inl (fun _ => 0))), (q_3, .inl (cI, 16, .inl (fun _ => 0)))] := hD
  refine W.widen (k := 2) (n := 32) (by decide) (by decide) ?_
  exact W.vret (pc := 20) hx hb hr (fun T8 hT8 hW8 => ⟨⟨(), rfl, trivial, q_1, q_3, bv_hP hT8 hP9, hD9⟩, hS.F hT8⟩) hS.2.2 dX1_init_20
set_option maxHeartbeats 4000000 in
set_option maxRecDepth 100000 in
theorem m_X3_init (l : Launch) (G : va_G) (cI : ClassId) (sz : Nat) (x : Nat) : Met l yX3_init wsX3_init ({ frames := 2, cells := 9, slots := 1096, locals := 42 }) (bv_P [.ref x] G cI (fun H => H.size = sz ∧ va_P G vwCl [(x, .inr (3, [.null, .null, .null]))] H ∧ va_D (fun _ => True) [(x, .inr (3, [.null, .null, .null]))])) (va_Qv (fun _ : Unit => True) (fun (_ : Unit) (T9 : State) => ∃ xp ap xb as ar am xm al ak : Nat, va_P G vwCl [(x, .inr (3, [.ref xp, .ref xb, .ref xm])), (xp, .inr (2, [.ref ap, .int 0])), (ap, .inl (cI, 12, .inl (fun _ => 0))), (xb, .inr (0, [.ref as, .ref ar, .ref am, .int 0])), (as, .inl (cI, 10, .inl (fun _ => 0))), (ar, .inl (cI, 10, .inl (fun _ => 0))), (am, .inl (cI, 1024, .inl (upd (fun _ => 0) 0 65535))), (xm, .inr (1, [.ref al, .ref ak])), (al, .inl (cI, 16, .inl (fun _ => 0))), (ak, .inl (cI, 16, .inl (fun _ => 0)))] T9.heap ∧ va_D (va_A [(x, .inr (3, [.null, .null, .null]))] sz) [(x, .inr (3, [.ref xp, .ref xb, .ref xm])), (xp, .inr (2, [.ref ap, .int 0])), (ap, .inl (cI, 12, .inl (fun _ => 0))), (xb, .inr (0, [.ref as, .ref ar, .ref am, .int 0])), (as, .inl (cI, 10, .inl (fun _ => 0))), (ar, .inl (cI, 10, .inl (fun _ => 0))), (am, .inl (cI, 1024, .inl (upd (fun _ => 0) 0 65535))), (xm, .inr (1, [.ref al, .ref ak])), (al, .inl (cI, 16, .inl (fun _ => 0))), (ak, .inl (cI, 16, .inl (fun _ => 0)))]) (va_A [(x, .inr (3, [.null, .null, .null]))] sz)) 9 1096 (va_A [(x, .inr (3, [.null, .null, .null]))] sz) := by
  refine Met.ofW (cc := cX3_init) (maxL := 1) (ret := none) (by decide) rfl ?_
  intro p e s m args below meth c s₁ B hml hv
  obtain ⟨rfl, ⟨hsz, hP, hD0⟩, hE⟩ := hv
  have hx := B.exec
  have hb := B.bytes
  have hr := B.returns
  have hts := atoms_spec (ws := wsX3_init) B.pre
  have hown : s.vm.findClass RX3 = some m.cls := findClass_of_methodNamed B.named
  have hlocks := B.notSynchronized
  have hK := hE.1
  have hw0 := hts (.methodLink RX3 3 objectInit) (List.mem_of_getElem? (i := 1) rfl)
  have hw1 := hts (.instanceMethod objectInit) (List.mem_of_getElem? (i := 2) rfl)
  have hw2 := hts (.code objectInit ⟨#[0xb1]⟩ 1 none) (List.mem_of_getElem? (i := 3) rfl)
  have hw3 := hts (.classLink RX3 9 RX2) (List.mem_of_getElem? (i := 4) rfl)
  have hw4 := hts (.instantiable RX2 2) (List.mem_of_getElem? (i := 5) rfl)
  have hw5 := hts (.initialized RX2) (List.mem_of_getElem? (i := 6) rfl)
  have hw6 : ∀ w ∈ u_ws RX2 TX2 2, w ∈ wsX3_init := by decide +kernel
  have hw7 := hts (.instanceMethod yX2_init) (List.mem_of_getElem? (i := 16) rfl)
  have hw8 : va_Nw (.methodLinkNest RX3 11 yX2_init RX3) s := hE.2 (RX3, 11, yX2_init) (List.mem_of_getElem? (i := 0) rfl)
  have hw9 := hts (.fieldLink RX3 12 "BeliefReviser" "pile" "LBeliefReviser$Pile;") (List.mem_of_getElem? (i := 7) rfl)
  have hw10 : ∀ w ∈ u_ws RX3 TX3 3, w ∈ wsX3_init := by decide +kernel
  have hw11 := hts (.classLink RX3 16 RX0) (List.mem_of_getElem? (i := 8) rfl)
  have hw12 := hts (.instantiable RX0 4) (List.mem_of_getElem? (i := 9) rfl)
  have hw13 := hts (.initialized RX0) (List.mem_of_getElem? (i := 10) rfl)
  have hw14 : ∀ w ∈ u_ws RX0 TX0 4, w ∈ wsX3_init := by decide +kernel
  have hw15 := hts (.instanceMethod yX0_init) (List.mem_of_getElem? (i := 23) rfl)
  have hw16 := hts (.methodLink RX3 18 yX0_init) (List.mem_of_getElem? (i := 22) rfl)
  have hw17 := hts (.fieldLink RX3 19 "BeliefReviser" "base" "LBeliefReviser$Base;") (List.mem_of_getElem? (i := 11) rfl)
  have hw18 := hts (.classLink RX3 23 RX1) (List.mem_of_getElem? (i := 12) rfl)
  have hw19 := hts (.instantiable RX1 2) (List.mem_of_getElem? (i := 13) rfl)
  have hw20 := hts (.initialized RX1) (List.mem_of_getElem? (i := 14) rfl)
  have hw21 : ∀ w ∈ u_ws RX1 TX1 2, w ∈ wsX3_init := by decide +kernel
  have hw22 := hts (.instanceMethod yX1_init) (List.mem_of_getElem? (i := 34) rfl)
  have hw23 : va_Nw (.methodLinkNest RX3 25 yX1_init RX3) s := hE.2 (RX3, 25, yX1_init) (List.mem_of_getElem? (i := 1) rfl)
  have hw24 := hts (.fieldLink RX3 26 "BeliefReviser" "mind" "LBeliefReviser$Mind;") (List.mem_of_getElem? (i := 15) rfl)
  have hin : meth.name = "<init>" := (name_of_methodNamed B.named B.method).1
  subst hsz
  have hD := hD0.self (sz := s.heap.size)
  generalize hAe : va_A [(x, .inr (3, [.null, .null, .null]))] s.heap.size = A at hD ⊢
  have hA : ∀ q : Nat, s.heap.size ≤ q → A q := fun q h => by rw [← hAe]; exact Or.inr h
  have hS : va_S A s.heap s.heap [] := va_S.rf
  have hP : va_P G vwCl [(x, .inr (3, [.null, .null, .null]))] s.heap := hP
  have hl := lv_entry ([.ref x]) (n := 1) (Nat.le_of_ble_eq_true rfl)
  rw [lg_entry_eq]
  generalize (lg_sl ([.ref x]) ++ List.replicate (1 - (lg_sl ([.ref x])).length) Slot.unset).toArray = ls at hl ⊢
  have hl : lv_has ls 1 [(0, .ref x)] := hl
  refine lv_aload_n (pc := 0) hx hb dX3_init_0 rfl (lv_at hl 0 rfl) ?_
  refine W.objInit hx hb hown hw0 hw1 hw2 rfl (by rw [hml]; exact hl.1) rfl dX3_init_1 (Nat.le_of_ble_eq_true rfl) (Nat.le_of_ble_eq_true rfl) ?_
  refine W.eq (g2 := F0 m 4 ls []) rfl ?_
  refine lv_aload_n (pc := 4) hx hb dX3_init_4 rfl (lv_at hl 0 rfl) ?_
  refine va_new (pc := 5) (ci := 2) (fs := [.null, .int 0]) (C := RX2) (T := TX2) (N := 2) hx hb hts hw6 tyX2 tyX2_ok hown hw3 hw4 hw5 hK hP hD hS hA rfl (fun j hj => by rcases (show j = 0 ∨ j = 1 by omega) with rfl | rfl <;> rfl) (Nat.le_of_ble_eq_true rfl) (Nat.le_of_ble_eq_true rfl) dX3_init_5 (fun q_1 H hP hD hS => ?_)
  have hP : va_P G vwCl [(x, .inr (3, [.null, .null, .null])), (q_1, .inr (2, [.null, .int 0]))] H := hP
  have hD : va_D A [(x, .inr (3, [.null, .null, .null])), (q_1, .inr (2, [.null, .int 0]))] := hD
  refine W.widen (k := 1) (n := 2) (by omega) (by omega) ?_
  refine lv_dup (pc := 8) hx hb dX3_init_8 rfl ?_
  have hPc := hP.sub (ws' := [(q_1, .inr (2, [.null, .int 0]))]) [1] rfl
  have hDc := hD.sub (ws' := [(q_1, .inr (2, [.null, .int 0]))]) [1] (by decide) rfl
  have hFc := va_free (wc := [(q_1, .inr (2, [.null, .int 0]))]) hD hS hA [1] rfl
  refine va_callv (pc := 9) (va_runIN (As := []) (rest := [.ref q_1, .ref x]) ⟨hx, hb, hml, hown, hts⟩ (m_X2_init l G cI H.size q_1 ) ⟨va_cnB 0 hts gX3_init_X2_init_n11 rfl rfl rfl hw8 hw5 (by decide +kernel) ⟨Nat.le_of_ble_eq_true rfl, Nat.le_of_ble_eq_true rfl⟩, rfl, hw7⟩ (bv_pS hE ⟨rfl, hPc, hDc.weaken (fun _ _ _ _ => trivial)⟩) rfl rfl hl.1 rfl (lv_room (Nat.le_of_ble_eq_true rfl)) dX3_init_9 ⟨Nat.le_of_ble_eq_true rfl, Nat.le_of_ble_eq_true rfl⟩) hS (fun q _ h => hFc q h) hFc (fun u8 t8 H1 locs ht8 hvm8 e_3 hB8 hz1 hk1 hS => ?_)
  obtain ⟨q_4, hP1, hD1⟩ := hB8
  rw [ht8] at hP1
  obtain ⟨hP, hD⟩ := va_join (wr := [(x, .inr (3, [.null, .null, .null]))]) (w1 := [(q_1, .inr (2, [.ref q_4, .int 0])), (q_4, .inl (cI, 12, .inl (fun _ => 0)))]) hP hD [1] [0] rfl rfl (by decide) (by decide) hk1 hFc hP1 hD1
  have hP : va_P G vwCl [(x, .inr (3, [.null, .null, .null])), (q_1, .inr (2, [.ref q_4, .int 0])), (q_4, .inl (cI, 12, .inl (fun _ => 0)))] H1 := hP.sub (ws' := [(x, .inr (3, [.null, .null, .null])), (q_1, .inr (2, [.ref q_4, .int 0])), (q_4, .inl (cI, 12, .inl (fun _ => 0)))]) [0, 1, 2] rfl
  have hD : va_D A [(x, .inr (3, [.null, .null, .null])), (q_1, .inr (2, [.ref q_4, .int 0])), (q_4, .inl (cI, 12, .inl (fun _ => 0)))] := hD.sub (ws' := [(x, .inr (3, [.null, .null, .null])), (q_1, .inr (2, [.ref q_4, .int 0])), (q_4, .inl (cI, 12, .inl (fun _ => 0)))]) [0, 1, 2] (by decide) rfl
  generalize H1 = H at hP hS ⊢
  refine va_putF (pc := 12) (D := G) (ci := 3) (v := .ref q_1) (ty := (.object "BeliefReviser$Pile")) (C := RX3) (T := TX3) (N := 3) hx hb hts hw10 tyX3 tyX3_ok nmX3 hown hK hP hD hS 0 rfl rfl 0 (by decide) hw9 (fun _ h9 => h9) rfl hin rfl (by decide +kernel) rfl rfl (Nat.le_of_ble_eq_true rfl) dX3_init_12 (fun H locs hP hD hS => ?_)
  have hP : va_P G vwCl [(x, .inr (3, [.ref q_1, .null, .null])), (q_1, .inr (2, [.ref q_4, .int 0])), (q_4, .inl (cI, 12, .inl (fun _ => 0)))] H := hP
  have hD : va_D A [(x, .inr (3, [.ref q_1, .null, .null])), (q_1, .inr (2, [.ref q_4, .int 0])), (q_4, .inl (cI, 12, .inl (fun _ => 0)))] := hD
  refine lv_aload_n (pc := 15) hx hb dX3_init_15 rfl (lv_at hl 0 rfl) ?_
  refine va_new (pc := 16) (ci := 0) (fs := [.null, .null, .null, .int 0]) (C := RX0) (T := TX0) (N := 4) hx hb hts hw14 tyX0 tyX0_ok hown hw11 hw12 hw13 hK hP hD hS hA rfl (fun j hj => by rcases (show j = 0 ∨ j = 1 ∨ j = 2 ∨ j = 3 by omega) with rfl | rfl | rfl | rfl <;> rfl) (Nat.le_of_ble_eq_true rfl) (Nat.le_of_ble_eq_true rfl) dX3_init_16 (fun q_5 H hP hD hS => ?_)
  have hP : va_P G vwCl [(x, .inr (3, [.ref q_1, .null, .null])), (q_1, .inr (2, [.ref q_4, .int 0])), (q_4, .inl (cI, 12, .inl (fun _ => 0))), (q_5, .inr (0, [.null, .null, .null, .int 0]))] H := hP
  have hD : va_D A [(x, .inr (3, [.ref q_1, .null, .null])), (q_1, .inr (2, [.ref q_4, .int 0])), (q_4, .inl (cI, 12, .inl (fun _ => 0))), (q_5, .inr (0, [.null, .null, .null, .int 0]))] := hD
  refine W.widen (k := 3) (n := 18) (by omega) (by omega) ?_
  refine lv_dup (pc := 19) hx hb dX3_init_19 rfl ?_
  have hPc := hP.sub (ws' := [(q_5, .inr (0, [.null, .null, .null, .int 0]))]) [3] rfl
  have hDc := hD.sub (ws' := [(q_5, .inr (0, [.null, .null, .null, .int 0]))]) [3] (by decide) rfl
  have hFc := va_free (wc := [(q_5, .inr (0, [.null, .null, .null, .int 0]))]) hD hS hA [3] rfl
  refine va_callv (pc := 20) (va_runI (As := []) (rest := [.ref q_5, .ref x]) ⟨hx, hb, hml, hown, hts⟩ (m_X0_init l G cI H.size q_5 ) (cwI 0 hts gX3_init_X0_init rfl rfl rfl hw13 hw16 hw15 rfl (by decide +kernel) ⟨Nat.le_of_ble_eq_true rfl, Nat.le_of_ble_eq_true rfl⟩) (bv_pS hE ⟨rfl, hPc, hDc.weaken (fun _ _ _ _ => trivial)⟩) rfl rfl hl.1 rfl (lv_room (Nat.le_of_ble_eq_true rfl)) dX3_init_20 ⟨Nat.le_of_ble_eq_true rfl, Nat.le_of_ble_eq_true rfl⟩) hS (fun q _ h => hFc q h) hFc (fun u8 t8 H1 locs ht8 hvm8 e_7 hB8 hz1 hk1 hS => ?_)
  obtain ⟨q_8, q_9, q_10, hP1, hD1⟩ := hB8
  rw [ht8] at hP1
  obtain ⟨hP, hD⟩ := va_join (wr := [(x, .inr (3, [.ref q_1, .null, .null])), (q_1, .inr (2, [.ref q_4, .int 0])), (q_4, .inl (cI, 12, .inl (fun _ => 0)))]) (w1 := [(q_5, .inr (0, [.ref q_8, .ref q_9, .ref q_10, .int 0])), (q_8, .inl (cI, 10, .inl (fun _ => 0))), (q_9, .inl (cI, 10, .inl (fun _ => 0))), (q_10, .inl (cI, 1024, .inl (upd (fun _ => 0) 0 65535)))]) hP hD [3] [0, 1, 2] rfl rfl (by decide) (by decide) hk1 hFc hP1 hD1
  have hP : va_P G vwCl [(x, .inr (3, [.ref q_1, .null, .null])), (q_1, .inr (2, [.ref q_4, .int 0])), (q_4, .inl (cI, 12, .inl (fun _ => 0))), (q_5, .inr (0, [.ref q_8, .ref q_9, .ref q_10, .int 0])), (q_8, .inl (cI, 10, .inl (fun _ => 0))), (q_9, .inl (cI, 10, .inl (fun _ => 0))), (q_10, .inl (cI, 1024, .inl (upd (fun _ => 0) 0 65535)))] H1 := hP.sub (ws' := [(x, .inr (3, [.ref q_1, .null, .null])), (q_1, .inr (2, [.ref q_4, .int 0])), (q_4, .inl (cI, 12, .inl (fun _ => 0))), (q_5, .inr (0, [.ref q_8, .ref q_9, .ref q_10, .int 0])), (q_8, .inl (cI, 10, .inl (fun _ => 0))), (q_9, .inl (cI, 10, .inl (fun _ => 0))), (q_10, .inl (cI, 1024, .inl (upd (fun _ => 0) 0 65535)))]) [0, 1, 2, 3, 4, 5, 6] rfl
  have hD : va_D A [(x, .inr (3, [.ref q_1, .null, .null])), (q_1, .inr (2, [.ref q_4, .int 0])), (q_4, .inl (cI, 12, .inl (fun _ => 0))), (q_5, .inr (0, [.ref q_8, .ref q_9, .ref q_10, .int 0])), (q_8, .inl (cI, 10, .inl (fun _ => 0))), (q_9, .inl (cI, 10, .inl (fun _ => 0))), (q_10, .inl (cI, 1024, .inl (upd (fun _ => 0) 0 65535)))] := hD.sub (ws' := [(x, .inr (3, [.ref q_1, .null, .null])), (q_1, .inr (2, [.ref q_4, .int 0])), (q_4, .inl (cI, 12, .inl (fun _ => 0))), (q_5, .inr (0, [.ref q_8, .ref q_9, .ref q_10, .int 0])), (q_8, .inl (cI, 10, .inl (fun _ => 0))), (q_9, .inl (cI, 10, .inl (fun _ => 0))), (q_10, .inl (cI, 1024, .inl (upd (fun _ => 0) 0 65535)))]) [0, 1, 2, 3, 4, 5, 6] (by decide) rfl
  generalize H1 = H at hP hS ⊢
  refine va_putF (pc := 23) (D := G) (ci := 3) (v := .ref q_5) (ty := (.object "BeliefReviser$Base")) (C := RX3) (T := TX3) (N := 3) hx hb hts hw10 tyX3 tyX3_ok nmX3 hown hK hP hD hS 0 rfl rfl 1 (by decide) hw17 (fun _ h9 => h9) rfl hin rfl (by decide +kernel) rfl rfl (Nat.le_of_ble_eq_true rfl) dX3_init_23 (fun H locs hP hD hS => ?_)
  have hP : va_P G vwCl [(x, .inr (3, [.ref q_1, .ref q_5, .null])), (q_1, .inr (2, [.ref q_4, .int 0])), (q_4, .inl (cI, 12, .inl (fun _ => 0))), (q_5, .inr (0, [.ref q_8, .ref q_9, .ref q_10, .int 0])), (q_8, .inl (cI, 10, .inl (fun _ => 0))), (q_9, .inl (cI, 10, .inl (fun _ => 0))), (q_10, .inl (cI, 1024, .inl (upd (fun _ => 0) 0 65535)))] H := hP
  have hD : va_D A [(x, .inr (3, [.ref q_1, .ref q_5, .null])), (q_1, .inr (2, [.ref q_4, .int 0])), (q_4, .inl (cI, 12, .inl (fun _ => 0))), (q_5, .inr (0, [.ref q_8, .ref q_9, .ref q_10, .int 0])), (q_8, .inl (cI, 10, .inl (fun _ => 0))), (q_9, .inl (cI, 10, .inl (fun _ => 0))), (q_10, .inl (cI, 1024, .inl (upd (fun _ => 0) 0 65535)))] := hD
  refine lv_aload_n (pc := 26) hx hb dX3_init_26 rfl (lv_at hl 0 rfl) ?_
  refine va_new (pc := 27) (ci := 1) (fs := [.null, .null]) (C := RX1) (T := TX1) (N := 2) hx hb hts hw21 tyX1 tyX1_ok hown hw18 hw19 hw20 hK hP hD hS hA rfl (fun j hj => by rcases (show j = 0 ∨ j = 1 by omega) with rfl | rfl <;> rfl) (Nat.le_of_ble_eq_true rfl) (Nat.le_of_ble_eq_true rfl) dX3_init_27 (fun q_11 H hP hD hS => ?_)
  have hP : va_P G vwCl [(x, .inr (3, [.ref q_1, .ref q_5, .null])), (q_1, .inr (2, [.ref q_4, .int 0])), (q_4, .inl (cI, 12, .inl (fun _ => 0))), (q_5, .inr (0, [.ref q_8, .ref q_9, .ref q_10, .int 0])), (q_8, .inl (cI, 10, .inl (fun _ => 0))), (q_9, .inl (cI, 10, .inl (fun _ => 0))), (q_10, .inl (cI, 1024, .inl (upd (fun _ => 0) 0 65535))), (q_11, .inr (1, [.null, .null]))] H := hP
  have hD : va_D A [(x, .inr (3, [.ref q_1, .ref q_5, .null])), (q_1, .inr (2, [.ref q_4, .int 0])), (q_4, .inl (cI, 12, .inl (fun _ => 0))), (q_5, .inr (0, [.ref q_8, .ref q_9, .ref q_10, .int 0])), (q_8, .inl (cI, 10, .inl (fun _ => 0))), (q_9, .inl (cI, 10, .inl (fun _ => 0))), (q_10, .inl (cI, 1024, .inl (upd (fun _ => 0) 0 65535))), (q_11, .inr (1, [.null, .null]))] := hD
  refine W.widen (k := 7) (n := 1064) (by omega) (by omega) ?_
  refine lv_dup (pc := 30) hx hb dX3_init_30 rfl ?_
  have hPc := hP.sub (ws' := [(q_11, .inr (1, [.null, .null]))]) [7] rfl
  have hDc := hD.sub (ws' := [(q_11, .inr (1, [.null, .null]))]) [7] (by decide) rfl
  have hFc := va_free (wc := [(q_11, .inr (1, [.null, .null]))]) hD hS hA [7] rfl
  refine va_callv (pc := 31) (va_runIN (As := []) (rest := [.ref q_11, .ref x]) ⟨hx, hb, hml, hown, hts⟩ (m_X1_init l G cI H.size q_11 ) ⟨va_cnB 0 hts gX3_init_X1_init_n25 rfl rfl rfl hw23 hw20 (by decide +kernel) ⟨Nat.le_of_ble_eq_true rfl, Nat.le_of_ble_eq_true rfl⟩, rfl, hw22⟩ (bv_pS hE ⟨rfl, hPc, hDc.weaken (fun _ _ _ _ => trivial)⟩) rfl rfl hl.1 rfl (lv_room (Nat.le_of_ble_eq_true rfl)) dX3_init_31 ⟨Nat.le_of_ble_eq_true rfl, Nat.le_of_ble_eq_true rfl⟩) hS (fun q _ h => hFc q h) hFc (fun u8 t8 H1 locs ht8 hvm8 e_13 hB8 hz1 hk1 hS => ?_)
  obtain ⟨q_14, q_15, hP1, hD1⟩ := hB8
  rw [ht8] at hP1
  obtain ⟨hP, hD⟩ := va_join (wr := [(x, .inr (3, [.ref q_1, .ref q_5, .null])), (q_1, .inr (2, [.ref q_4, .int 0])), (q_4, .inl (cI, 12, .inl (fun _ => 0))), (q_5, .inr (0, [.ref q_8, .ref q_9, .ref q_10, .int 0])), (q_8, .inl (cI, 10, .inl (fun _ => 0))), (q_9, .inl (cI, 10, .inl (fun _ => 0))), (q_10, .inl (cI, 1024, .inl (upd (fun _ => 0) 0 65535)))]) (w1 := [(q_11, .inr (1, [.ref q_14, .ref q_15])), (q_14, .inl (cI, 16, .inl (fun _ => 0))), (q_15, .inl (cI, 16, .inl (fun _ => 0)))]) hP hD [7] [0, 1, 2, 3, 4, 5, 6] rfl rfl (by decide) (by decide) hk1 hFc hP1 hD1
  have hP : va_P G vwCl [(x, .inr (3, [.ref q_1, .ref q_5, .null])), (q_1, .inr (2, [.ref q_4, .int 0])), (q_4, .inl (cI, 12, .inl (fun _ => 0))), (q_5, .inr (0, [.ref q_8, .ref q_9, .ref q_10, .int 0])), (q_8, .inl (cI, 10, .inl (fun _ => 0))), (q_9, .inl (cI, 10, .inl (fun _ => 0))), (q_10, .inl (cI, 1024, .inl (upd (fun _ => 0) 0 65535))), (q_11, .inr (1, [.ref q_14, .ref q_15])), (q_14, .inl (cI, 16, .inl (fun _ => 0))), (q_15, .inl (cI, 16, .inl (fun _ => 0)))] H1 := hP.sub (ws' := [(x, .inr (3, [.ref q_1, .ref q_5, .null])), (q_1, .inr (2, [.ref q_4, .int 0])), (q_4, .inl (cI, 12, .inl (fun _ => 0))), (q_5, .inr (0, [.ref q_8, .ref q_9, .ref q_10, .int 0])), (q_8, .inl (cI, 10, .inl (fun _ => 0))), (q_9, .inl (cI, 10, .inl (fun _ => 0))), (q_10, .inl (cI, 1024, .inl (upd (fun _ => 0) 0 65535))), (q_11, .inr (1, [.ref q_14, .ref q_15])), (q_14, .inl (cI, 16, .inl (fun _ => 0))), (q_15, .inl (cI, 16, .inl (fun _ => 0)))]) [0, 1, 2, 3, 4, 5, 6, 7, 8, 9] rfl
  have hD : va_D A [(x, .inr (3, [.ref q_1, .ref q_5, .null])), (q_1, .inr (2, [.ref q_4, .int 0])), (q_4, .inl (cI, 12, .inl (fun _ => 0))), (q_5, .inr (0, [.ref q_8, .ref q_9, .ref q_10, .int 0])), (q_8, .inl (cI, 10, .inl (fun _ => 0))), (q_9, .inl (cI, 10, .inl (fun _ => 0))), (q_10, .inl (cI, 1024, .inl (upd (fun _ => 0) 0 65535))), (q_11, .inr (1, [.ref q_14, .ref q_15])), (q_14, .inl (cI, 16, .inl (fun _ => 0))), (q_15, .inl (cI, 16, .inl (fun _ => 0)))] := hD.sub (ws' := [(x, .inr (3, [.ref q_1, .ref q_5, .null])), (q_1, .inr (2, [.ref q_4, .int 0])), (q_4, .inl (cI, 12, .inl (fun _ => 0))), (q_5, .inr (0, [.ref q_8, .ref q_9, .ref q_10, .int 0])), (q_8, .inl (cI, 10, .inl (fun _ => 0))), (q_9, .inl (cI, 10, .inl (fun _ => 0))), (q_10, .inl (cI, 1024, .inl (upd (fun _ => 0) 0 65535))), (q_11, .inr (1, [.ref q_14, .ref q_15])), (q_14, .inl (cI, 16, .inl (fun _ => 0))), (q_15, .inl (cI, 16, .inl (fun _ => 0)))]) [0, 1, 2, 3, 4, 5, 6, 7, 8, 9] (by decide) rfl
  generalize H1 = H at hP hS ⊢
  refine va_putF (pc := 34) (D := G) (ci := 3) (v := .ref q_11) (ty := (.object "BeliefReviser$Mind")) (C := RX3) (T := TX3) (N := 3) hx hb hts hw10 tyX3 tyX3_ok nmX3 hown hK hP hD hS 0 rfl rfl 2 (by decide) hw24 (fun _ h9 => h9) rfl hin rfl (by decide +kernel) rfl rfl (Nat.le_of_ble_eq_true rfl) dX3_init_34 (fun H locs hP hD hS => ?_)
  have hP : va_P G vwCl [(x, .inr (3, [.ref q_1, .ref q_5, .ref q_11])), (q_1, .inr (2, [.ref q_4, .int 0])), (q_4, .inl (cI, 12, .inl (fun _ => 0))), (q_5, .inr (0, [.ref q_8, .ref q_9, .ref q_10, .int 0])), (q_8, .inl (cI, 10, .inl (fun _ => 0))), (q_9, .inl (cI, 10, .inl (fun _ => 0))), (q_10, .inl (cI, 1024, .inl (upd (fun _ => 0) 0 65535))), (q_11, .inr (1, [.ref q_14, .ref q_15])), (q_14, .inl (cI, 16, .inl (fun _ => 0))), (q_15, .inl (cI, 16, .inl (fun _ => 0)))] H := hP
  have hD : va_D A [(x, .inr (3, [.ref q_1, .ref q_5, .ref q_11])), (q_1, .inr (2, [.ref q_4, .int 0])), (q_4, .inl (cI, 12, .inl (fun _ => 0))), (q_5, .inr (0, [.ref q_8, .ref q_9, .ref q_10, .int 0])), (q_8, .inl (cI, 10, .inl (fun _ => 0))), (q_9, .inl (cI, 10, .inl (fun _ => 0))), (q_10, .inl (cI, 1024, .inl (upd (fun _ => 0) 0 65535))), (q_11, .inr (1, [.ref q_14, .ref q_15])), (q_14, .inl (cI, 16, .inl (fun _ => 0))), (q_15, .inl (cI, 16, .inl (fun _ => 0)))] := hD
  have hP9 : va_P G vwCl [(x, .inr (3, [.ref q_1, .ref q_5, .ref q_11])), (q_1, .inr (2, [.ref q_4, .int 0])), (q_4, .inl (cI, 12, .inl (fun _ => 0))), (q_5, .inr (0, [.ref q_8, .ref q_9, .ref q_10, .int 0])), (q_8, .inl (cI, 10, .inl (fun _ => 0))), (q_9, .inl (cI, 10, .inl (fun _ => 0))), (q_10, .inl (cI, 1024, .inl (upd (fun _ => 0) 0 65535))), (q_11, .inr (1, [.ref q_14, .ref q_15])), (q_14, .inl (cI, 16, .inl (fun _ => 0))), (q_15, .inl (cI, 16, .inl (fun _ => 0)))] H := hP
  have hD9 : va_D A [(x, .inr (3, [.ref q_1, .ref q_5, .ref q_11])), (q_1, .inr (2, [.ref q_4, .int 0])), (q_4, .inl (cI, 12, .inl (fun _ => 0))), (q_5, .inr (0, [.ref q_8, .ref q_9, .ref q_10, .int 0])), (q_8, .inl (cI, 10, .inl (fun _ => 0))), (q_9, .inl (cI, 10, .inl (fun _ => 0))), (q_10, .inl (cI, 1024, .inl (upd (fun _ => 0) 0 65535))), (q_11, .inr (1, [.ref q_14, .ref q_15])), (q_14, .inl (cI, 16, .inl (fun _ => 0))), (q_15, .inl (cI, 16, .inl (fun _ => 0)))] := hD
  refine W.widen (k := 9) (n := 1096) (by decide) (by decide) ?_
  exact W.vret (pc := 37) hx hb hr (fun T8 hT8 hW8 => ⟨⟨(), rfl, trivial, q_1, q_4, q_5, q_8, q_9, q_10, q_11, q_14, q_15, bv_hP hT8 hP9, hD9⟩, hS.F hT8⟩) hS.2.2 dX3_init_37
