set_option maxHeartbeats 4000000 in
set_option maxRecDepth 100000 in
theorem m_X3_kernels (l : Launch) (hst : l.stackTraces = false) (G : va_G) (cI : ClassId) (H0 : Heap) (x xp ap pn xb as ar am bn xm al ak : Nat) (pf bs br mt lv ks : Nat → Int32) (hp : pn ≤ 12) (hn : bn ≤ 10) (hM : ∀ t, t < 2 ^ bn → mt t = bv_wi bs t bn) : vx_Met l yX3_kernels wsX3_kernels ({ frames := 7, cells := 1, slots := 6, locals := 114 }) (bv_PX [.ref x] G cI (fun H => H = H0 ∧ va_P G vwCl [(x, .inr (3, [.ref xp, .ref xb, .ref xm])), (xp, .inr (2, [.ref ap, .int (nI pn)])), (ap, .inl (cI, 12, .inl pf)), (xb, .inr (0, [.ref as, .ref ar, .ref am, .int (nI bn)])), (as, .inl (cI, 10, .inl bs)), (ar, .inl (cI, 10, .inl br)), (am, .inl (cI, 1024, .inl mt)), (xm, .inr (1, [.ref al, .ref ak])), (al, .inl (cI, 16, .inl lv)), (ak, .inl (cI, 16, .inl ks))] H)) (va_Qi (fun (r9 : Int32) (_ : Unit) => r9 = (nI (bv_cnt (bv_is true bs bn (pf (pn - 1))) (2 ^ bn))) ∧ ((if ¬ (1 ≤ pn) then 1 else 0) = 0)) (fun _ (T9 : State) => T9.heap = H0) (fun _ => False)) (vx_X (fun _ : Unit => True) (fun (X9 : String) _ _ => (X9 = "java/lang/IllegalStateException" ∧ (if ¬ (1 ≤ pn) then 1 else 0) = 1)) (fun _ => False)) 1 6 (fun _ => False) := by
  refine vx_ofW (cc := cX3_kernels) (maxL := 1) (ret := (some .int)) (by decide) rfl ?_
  intro p e s m args below meth c s₁ B hml htab hv
  obtain ⟨rfl, ⟨hH0, hP⟩, hE, hX⟩ := hv
  have hx := B.exec
  have hb := B.bytes
  have hr := B.returns
  have hts := atoms_spec (ws := wsX3_kernels) B.pre
  have hown : s.vm.findClass RX3 = some m.cls := findClass_of_methodNamed B.named
  have hlocks := B.notSynchronized
  have hK := hE.1
  have hw0 := hts (.fieldLink RX3 19 "BeliefReviser" "base" "LBeliefReviser$Base;") (List.mem_of_getElem? (i := 1) rfl)
  have hw1 : ∀ w ∈ u_ws RX3 TX3 3, w ∈ wsX3_kernels := by decide +kernel
  subst hH0
  have hP : va_P G vwCl [(x, .inr (3, [.ref xp, .ref xb, .ref xm])), (xp, .inr (2, [.ref ap, .int (nI pn)])), (ap, .inl (cI, 12, .inl pf)), (xb, .inr (0, [.ref as, .ref ar, .ref am, .int (nI bn)])), (as, .inl (cI, 10, .inl bs)), (ar, .inl (cI, 10, .inl br)), (am, .inl (cI, 1024, .inl mt)), (xm, .inr (1, [.ref al, .ref ak])), (al, .inl (cI, 16, .inl lv)), (ak, .inl (cI, 16, .inl ks))] s.heap := hP
  have hl := lv_entry ([.ref x]) (n := 1) (Nat.le_of_ble_eq_true rfl)
  rw [lg_entry_eq]
  generalize (lg_sl ([.ref x]) ++ List.replicate (1 - (lg_sl ([.ref x])).length) Slot.unset).toArray = ls at hl ⊢
  have hl : lv_has ls 1 [(0, .ref x)] := hl
  refine lv_aload_n (pc := 0) hx hb dX3_kernels_0 rfl (lv_at hl 0 rfl) ?_
  refine va_get (pc := 1) (D := G) (ci := 3) (v := .ref xb) (C := RX3) (T := TX3) (N := 3) hx hb hts hw1 hown hK hP 0 rfl rfl 1 (by decide) hw0 (fun _ h9 => h9) rfl dX3_kernels_1 ?_
  refine lv_iconst (pc := 4) (v := 1) hx hb dX3_kernels_4 (by decide) ?_
  refine lv_aload_n (pc := 5) hx hb dX3_kernels_5 rfl (lv_at hl 0 rfl) ?_
  have hPc := hP.sub (ws' := [(x, .inr (3, [.ref xp, .ref xb, .ref xm])), (xp, .inr (2, [.ref ap, .int (nI pn)])), (ap, .inl (cI, 12, .inl pf)), (xb, .inr (0, [.ref as, .ref ar, .ref am, .int (nI bn)])), (as, .inl (cI, 10, .inl bs)), (ar, .inl (cI, 10, .inl br)), (am, .inl (cI, 1024, .inl mt)), (xm, .inr (1, [.ref al, .ref ak])), (al, .inl (cI, 16, .inl lv)), (ak, .inl (cI, 16, .inl ks))]) [0, 1, 2, 3, 4, 5, 6, 7, 8, 9] rfl
  refine bv_cXi (pc := 6) (E' := (pf (pn - 1))) (vx_runV (As := []) (rest := [.int 1, .ref xb]) ⟨hx, hb, hml, hown, hts⟩ (m_X3_requireTop l hst G cI s.heap x xp ap pn xb as ar am bn xm al ak pf bs br mt lv ks hp) (cwV 0 hts gX3_kernels_X3_requireTop rfl rfl rfl (by decide +kernel) ⟨Nat.le_of_ble_eq_true rfl, Nat.le_of_ble_eq_true rfl⟩) (bv_pVX hE hX ⟨rfl, hPc⟩ (va_recv hK hP (ci := 3) (q0 := 0) rfl rfl)) rfl rfl hl.1 rfl (lv_room (Nat.le_of_ble_eq_true rfl)) dX3_kernels_6 ⟨Nat.le_of_ble_eq_true rfl, Nat.le_of_ble_eq_true rfl⟩) htab hlocks (fun X h => ⟨h.1, by rw [if_pos (h.2)]⟩) (by decide) (by decide) rfl (fun hck0 => ?_)
  have hPc := hP.sub (ws' := [(xb, .inr (0, [.ref as, .ref ar, .ref am, .int (nI bn)])), (as, .inl (cI, 10, .inl bs)), (ar, .inl (cI, 10, .inl br)), (am, .inl (cI, 1024, .inl mt))]) [3, 4, 5, 6] rfl
  refine bv_cSi (pc := 9) (E' := (nI (bv_cnt (bv_is true bs bn (pf (pn - 1))) (2 ^ bn)))) (va_runV (As := [.int 1, .int (pf (pn - 1))]) (rest := []) ⟨hx, hb, hml, hown, hts⟩ (m_X0_countFound l G cI xb as ar am bn bs br mt true (pf (pn - 1)) hn hM) (cwV 2 hts gX3_kernels_X0_countFound rfl rfl rfl (by decide +kernel) ⟨Nat.le_of_ble_eq_true rfl, Nat.le_of_ble_eq_true rfl⟩) (bv_pV hE hPc (va_recv hK hP (ci := 0) (q0 := 3) rfl rfl)) rfl rfl hl.1 rfl (lv_room (Nat.le_of_ble_eq_true rfl)) dX3_kernels_9 ⟨Nat.le_of_ble_eq_true rfl, Nat.le_of_ble_eq_true rfl⟩) rfl ?_
  refine vx_ret ?_
  refine W.widen (k := 1) (n := 6) (by decide) (by decide) ?_
  exact W.iret (pc := 12) (v := (nI (bv_cnt (bv_is true bs bn (pf (pn - 1))) (2 ^ bn)))) hx hb hr (fun T8 hT8 hW8 => ⟨⟨(nI (bv_cnt (bv_is true bs bn (pf (pn - 1))) (2 ^ bn))), (), rfl, ⟨rfl, (by rw [if_neg (not_not_intro hck0)])⟩, hT8⟩, (va_S.rf (A := fun _ => False)).F hT8⟩) (fun _ h => nomatch h) dX3_kernels_12
set_option maxHeartbeats 4000000 in
set_option maxRecDepth 100000 in
theorem m_X3_kernel (l : Launch) (hst : l.stackTraces = false) (G : va_G) (cI : ClassId) (H0 : Heap) (x xp ap pn xb as ar am bn xm al ak : Nat) (pf bs br mt lv ks : Nat → Int32) (i : Int32) (hp : pn ≤ 12) (hn : bn ≤ 10) (hM : ∀ t, t < 2 ^ bn → mt t = bv_wi bs t bn) : vx_Met l yX3_kernel wsX3_kernel ({ frames := 7, cells := 2, slots := 12, locals := 139 }) (bv_PX [.ref x, .int i] G cI (fun H => H = H0 ∧ va_P G vwCl [(x, .inr (3, [.ref xp, .ref xb, .ref xm])), (xp, .inr (2, [.ref ap, .int (nI pn)])), (ap, .inl (cI, 12, .inl pf)), (xb, .inr (0, [.ref as, .ref ar, .ref am, .int (nI bn)])), (as, .inl (cI, 10, .inl bs)), (ar, .inl (cI, 10, .inl br)), (am, .inl (cI, 1024, .inl mt)), (xm, .inr (1, [.ref al, .ref ak])), (al, .inl (cI, 16, .inl lv)), (ak, .inl (cI, 16, .inl ks))] H)) (va_Qi (fun (r9 : Int32) (_ : Unit) => r9 = (bv_oI (bv_fnd (bv_is true bs bn (pf (pn - 1))) i (2 ^ bn))) ∧ ((if ¬ (1 ≤ pn) then 1 else (if ¬ (bv_fnd (bv_is true bs bn (pf (pn - 1))) i (2 ^ bn) ≠ none) then 2 else 0)) = 0)) (fun _ (T9 : State) => T9.heap = H0) (fun _ => False)) (vx_X (fun _ : Unit => True) (fun (X9 : String) _ _ => (X9 = "java/lang/IllegalStateException" ∧ (if ¬ (1 ≤ pn) then 1 else (if ¬ (bv_fnd (bv_is true bs bn (pf (pn - 1))) i (2 ^ bn) ≠ none) then 2 else 0)) = 1) ∨ (X9 = "java/lang/IndexOutOfBoundsException" ∧ (if ¬ (1 ≤ pn) then 1 else (if ¬ (bv_fnd (bv_is true bs bn (pf (pn - 1))) i (2 ^ bn) ≠ none) then 2 else 0)) = 2)) (fun _ => False)) 2 12 (fun _ => False) := by
  refine vx_ofW (cc := cX3_kernel) (maxL := 2) (ret := (some .int)) (by decide) rfl ?_
  intro p e s m args below meth c s₁ B hml htab hv
  obtain ⟨rfl, ⟨hH0, hP⟩, hE, hX⟩ := hv
  have hx := B.exec
  have hb := B.bytes
  have hr := B.returns
  have hts := atoms_spec (ws := wsX3_kernel) B.pre
  have hown : s.vm.findClass RX3 = some m.cls := findClass_of_methodNamed B.named
  have hlocks := B.notSynchronized
  have hK := hE.1
  subst hH0
  have hP : va_P G vwCl [(x, .inr (3, [.ref xp, .ref xb, .ref xm])), (xp, .inr (2, [.ref ap, .int (nI pn)])), (ap, .inl (cI, 12, .inl pf)), (xb, .inr (0, [.ref as, .ref ar, .ref am, .int (nI bn)])), (as, .inl (cI, 10, .inl bs)), (ar, .inl (cI, 10, .inl br)), (am, .inl (cI, 1024, .inl mt)), (xm, .inr (1, [.ref al, .ref ak])), (al, .inl (cI, 16, .inl lv)), (ak, .inl (cI, 16, .inl ks))] s.heap := hP
  have hl := lv_entry ([.ref x, .int i]) (n := 2) (Nat.le_of_ble_eq_true rfl)
  rw [lg_entry_eq]
  generalize (lg_sl ([.ref x, .int i]) ++ List.replicate (2 - (lg_sl ([.ref x, .int i])).length) Slot.unset).toArray = ls at hl ⊢
  have hl : lv_has ls 2 [(0, .ref x), (1, .int i)] := hl
  refine lv_aload_n (pc := 0) hx hb dX3_kernel_0 rfl (lv_at hl 0 rfl) ?_
  refine lv_iconst (pc := 1) (v := 1) hx hb dX3_kernel_1 (by decide) ?_
  refine lv_aload_n (pc := 2) hx hb dX3_kernel_2 rfl (lv_at hl 0 rfl) ?_
  have hPc := hP.sub (ws' := [(x, .inr (3, [.ref xp, .ref xb, .ref xm])), (xp, .inr (2, [.ref ap, .int (nI pn)])), (ap, .inl (cI, 12, .inl pf)), (xb, .inr (0, [.ref as, .ref ar, .ref am, .int (nI bn)])), (as, .inl (cI, 10, .inl bs)), (ar, .inl (cI, 10, .inl br)), (am, .inl (cI, 1024, .inl mt)), (xm, .inr (1, [.ref al, .ref ak])), (al, .inl (cI, 16, .inl lv)), (ak, .inl (cI, 16, .inl ks))]) [0, 1, 2, 3, 4, 5, 6, 7, 8, 9] rfl
  refine bv_cXi (pc := 3) (E' := (pf (pn - 1))) (vx_runV (As := []) (rest := [.int 1, .ref x]) ⟨hx, hb, hml, hown, hts⟩ (m_X3_requireTop l hst G cI s.heap x xp ap pn xb as ar am bn xm al ak pf bs br mt lv ks hp) (cwV 0 hts gX3_kernel_X3_requireTop rfl rfl rfl (by decide +kernel) ⟨Nat.le_of_ble_eq_true rfl, Nat.le_of_ble_eq_true rfl⟩) (bv_pVX hE hX ⟨rfl, hPc⟩ (va_recv hK hP (ci := 3) (q0 := 0) rfl rfl)) rfl rfl hl.1 rfl (lv_room (Nat.le_of_ble_eq_true rfl)) dX3_kernel_3 ⟨Nat.le_of_ble_eq_true rfl, Nat.le_of_ble_eq_true rfl⟩) htab hlocks (fun X h => Or.inl (⟨h.1, by rw [if_pos (h.2)]⟩)) (by decide) (by decide) rfl (fun hck0 => ?_)
  refine lv_iload_n (pc := 6) hx hb dX3_kernel_6 rfl (lv_at hl 1 rfl) ?_
  have hPc := hP.sub (ws' := [(x, .inr (3, [.ref xp, .ref xb, .ref xm])), (xp, .inr (2, [.ref ap, .int (nI pn)])), (ap, .inl (cI, 12, .inl pf)), (xb, .inr (0, [.ref as, .ref ar, .ref am, .int (nI bn)])), (as, .inl (cI, 10, .inl bs)), (ar, .inl (cI, 10, .inl br)), (am, .inl (cI, 1024, .inl mt)), (xm, .inr (1, [.ref al, .ref ak])), (al, .inl (cI, 16, .inl lv)), (ak, .inl (cI, 16, .inl ks))]) [0, 1, 2, 3, 4, 5, 6, 7, 8, 9] rfl
  refine bv_cXi (pc := 7) (E' := (bv_oI (bv_fnd (bv_is true bs bn (pf (pn - 1))) i (2 ^ bn)))) (vx_runV (As := [.int 1, .int (pf (pn - 1)), .int i]) (rest := []) ⟨hx, hb, hml, hown, hts⟩ (m_X3_requireFound l hst G cI s.heap x xp ap pn xb as ar am bn xm al ak pf bs br mt lv ks true (pf (pn - 1)) i hn hM) (cwV 3 hts gX3_kernel_X3_requireFound rfl rfl rfl (by decide +kernel) ⟨Nat.le_of_ble_eq_true rfl, Nat.le_of_ble_eq_true rfl⟩) (bv_pVX hE hX ⟨rfl, hPc⟩ (va_recv hK hP (ci := 3) (q0 := 0) rfl rfl)) rfl rfl hl.1 rfl (lv_room (Nat.le_of_ble_eq_true rfl)) dX3_kernel_7 ⟨Nat.le_of_ble_eq_true rfl, Nat.le_of_ble_eq_true rfl⟩) htab hlocks (fun X h => Or.inr (⟨h.1, by rw [if_neg (not_not_intro hck0), if_pos (h.2)]⟩)) (by decide) (by decide) rfl (fun hck1 => ?_)
  refine vx_ret ?_
  refine W.widen (k := 2) (n := 12) (by decide) (by decide) ?_
  exact W.iret (pc := 10) (v := (bv_oI (bv_fnd (bv_is true bs bn (pf (pn - 1))) i (2 ^ bn)))) hx hb hr (fun T8 hT8 hW8 => ⟨⟨(bv_oI (bv_fnd (bv_is true bs bn (pf (pn - 1))) i (2 ^ bn))), (), rfl, ⟨rfl, (by rw [if_neg (not_not_intro hck0), if_neg (not_not_intro hck1)])⟩, hT8⟩, (va_S.rf (A := fun _ => False)).F hT8⟩) (fun _ h => nomatch h) dX3_kernel_10
set_option maxHeartbeats 4000000 in
set_option maxRecDepth 100000 in
theorem m_X3_remainders (l : Launch) (hst : l.stackTraces = false) (G : va_G) (cI : ClassId) (H0 : Heap) (x xp ap pn xb as ar am bn xm al ak : Nat) (pf bs br mt lv ks : Nat → Int32) (hp : pn ≤ 12) (hn : bn ≤ 10) (hM : ∀ t, t < 2 ^ bn → mt t = bv_wi bs t bn) : vx_Met l yX3_remainders wsX3_remainders ({ frames := 7, cells := 1, slots := 6, locals := 114 }) (bv_PX [.ref x] G cI (fun H => H = H0 ∧ va_P G vwCl [(x, .inr (3, [.ref xp, .ref xb, .ref xm])), (xp, .inr (2, [.ref ap, .int (nI pn)])), (ap, .inl (cI, 12, .inl pf)), (xb, .inr (0, [.ref as, .ref ar, .ref am, .int (nI bn)])), (as, .inl (cI, 10, .inl bs)), (ar, .inl (cI, 10, .inl br)), (am, .inl (cI, 1024, .inl mt)), (xm, .inr (1, [.ref al, .ref ak])), (al, .inl (cI, 16, .inl lv)), (ak, .inl (cI, 16, .inl ks))] H)) (va_Qi (fun (r9 : Int32) (_ : Unit) => r9 = (nI (bv_cnt (bv_is false bs bn (pf (pn - 1))) (2 ^ bn))) ∧ ((if ¬ (1 ≤ pn) then 1 else 0) = 0)) (fun _ (T9 : State) => T9.heap = H0) (fun _ => False)) (vx_X (fun _ : Unit => True) (fun (X9 : String) _ _ => (X9 = "java/lang/IllegalStateException" ∧ (if ¬ (1 ≤ pn) then 1 else 0) = 1)) (fun _ => False)) 1 6 (fun _ => False) := by
  refine vx_ofW (cc := cX3_remainders) (maxL := 1) (ret := (some .int)) (by decide) rfl ?_
  intro p e s m args below meth c s₁ B hml htab hv
  obtain ⟨rfl, ⟨hH0, hP⟩, hE, hX⟩ := hv
  have hx := B.exec
  have hb := B.bytes
  have hr := B.returns
  have hts := atoms_spec (ws := wsX3_remainders) B.pre
  have hown : s.vm.findClass RX3 = some m.cls := findClass_of_methodNamed B.named
  have hlocks := B.notSynchronized
  have hK := hE.1
  have hw0 := hts (.fieldLink RX3 19 "BeliefReviser" "base" "LBeliefReviser$Base;") (List.mem_of_getElem? (i := 1) rfl)
  have hw1 : ∀ w ∈ u_ws RX3 TX3 3, w ∈ wsX3_remainders := by decide +kernel
  subst hH0
  have hP : va_P G vwCl [(x, .inr (3, [.ref xp, .ref xb, .ref xm])), (xp, .inr (2, [.ref ap, .int (nI pn)])), (ap, .inl (cI, 12, .inl pf)), (xb, .inr (0, [.ref as, .ref ar, .ref am, .int (nI bn)])), (as, .inl (cI, 10, .inl bs)), (ar, .inl (cI, 10, .inl br)), (am, .inl (cI, 1024, .inl mt)), (xm, .inr (1, [.ref al, .ref ak])), (al, .inl (cI, 16, .inl lv)), (ak, .inl (cI, 16, .inl ks))] s.heap := hP
  have hl := lv_entry ([.ref x]) (n := 1) (Nat.le_of_ble_eq_true rfl)
  rw [lg_entry_eq]
  generalize (lg_sl ([.ref x]) ++ List.replicate (1 - (lg_sl ([.ref x])).length) Slot.unset).toArray = ls at hl ⊢
  have hl : lv_has ls 1 [(0, .ref x)] := hl
  refine lv_aload_n (pc := 0) hx hb dX3_remainders_0 rfl (lv_at hl 0 rfl) ?_
  refine va_get (pc := 1) (D := G) (ci := 3) (v := .ref xb) (C := RX3) (T := TX3) (N := 3) hx hb hts hw1 hown hK hP 0 rfl rfl 1 (by decide) hw0 (fun _ h9 => h9) rfl dX3_remainders_1 ?_
  refine lv_iconst (pc := 4) (v := 0) hx hb dX3_remainders_4 (by decide) ?_
  refine lv_aload_n (pc := 5) hx hb dX3_remainders_5 rfl (lv_at hl 0 rfl) ?_
  have hPc := hP.sub (ws' := [(x, .inr (3, [.ref xp, .ref xb, .ref xm])), (xp, .inr (2, [.ref ap, .int (nI pn)])), (ap, .inl (cI, 12, .inl pf)), (xb, .inr (0, [.ref as, .ref ar, .ref am, .int (nI bn)])), (as, .inl (cI, 10, .inl bs)), (ar, .inl (cI, 10, .inl br)), (am, .inl (cI, 1024, .inl mt)), (xm, .inr (1, [.ref al, .ref ak])), (al, .inl (cI, 16, .inl lv)), (ak, .inl (cI, 16, .inl ks))]) [0, 1, 2, 3, 4, 5, 6, 7, 8, 9] rfl
  refine bv_cXi (pc := 6) (E' := (pf (pn - 1))) (vx_runV (As := []) (rest := [.int 0, .ref xb]) ⟨hx, hb, hml, hown, hts⟩ (m_X3_requireTop l hst G cI s.heap x xp ap pn xb as ar am bn xm al ak pf bs br mt lv ks hp) (cwV 0 hts gX3_remainders_X3_requireTop rfl rfl rfl (by decide +kernel) ⟨Nat.le_of_ble_eq_true rfl, Nat.le_of_ble_eq_true rfl⟩) (bv_pVX hE hX ⟨rfl, hPc⟩ (va_recv hK hP (ci := 3) (q0 := 0) rfl rfl)) rfl rfl hl.1 rfl (lv_room (Nat.le_of_ble_eq_true rfl)) dX3_remainders_6 ⟨Nat.le_of_ble_eq_true rfl, Nat.le_of_ble_eq_true rfl⟩) htab hlocks (fun X h => ⟨h.1, by rw [if_pos (h.2)]⟩) (by decide) (by decide) rfl (fun hck0 => ?_)
  have hPc := hP.sub (ws' := [(xb, .inr (0, [.ref as, .ref ar, .ref am, .int (nI bn)])), (as, .inl (cI, 10, .inl bs)), (ar, .inl (cI, 10, .inl br)), (am, .inl (cI, 1024, .inl mt))]) [3, 4, 5, 6] rfl
  refine bv_cSi (pc := 9) (E' := (nI (bv_cnt (bv_is false bs bn (pf (pn - 1))) (2 ^ bn)))) (va_runV (As := [.int 0, .int (pf (pn - 1))]) (rest := []) ⟨hx, hb, hml, hown, hts⟩ (m_X0_countFound l G cI xb as ar am bn bs br mt false (pf (pn - 1)) hn hM) (cwV 2 hts gX3_remainders_X0_countFound rfl rfl rfl (by decide +kernel) ⟨Nat.le_of_ble_eq_true rfl, Nat.le_of_ble_eq_true rfl⟩) (bv_pV hE hPc (va_recv hK hP (ci := 0) (q0 := 3) rfl rfl)) rfl rfl hl.1 rfl (lv_room (Nat.le_of_ble_eq_true rfl)) dX3_remainders_9 ⟨Nat.le_of_ble_eq_true rfl, Nat.le_of_ble_eq_true rfl⟩) rfl ?_
  refine vx_ret ?_
  refine W.widen (k := 1) (n := 6) (by decide) (by decide) ?_
  exact W.iret (pc := 12) (v := (nI (bv_cnt (bv_is false bs bn (pf (pn - 1))) (2 ^ bn)))) hx hb hr (fun T8 hT8 hW8 => ⟨⟨(nI (bv_cnt (bv_is false bs bn (pf (pn - 1))) (2 ^ bn))), (), rfl, ⟨rfl, (by rw [if_neg (not_not_intro hck0)])⟩, hT8⟩, (va_S.rf (A := fun _ => False)).F hT8⟩) (fun _ h => nomatch h) dX3_remainders_12
set_option maxHeartbeats 4000000 in
set_option maxRecDepth 100000 in
theorem m_X3_remainder (l : Launch) (hst : l.stackTraces = false) (G : va_G) (cI : ClassId) (H0 : Heap) (x xp ap pn xb as ar am bn xm al ak : Nat) (pf bs br mt lv ks : Nat → Int32) (i : Int32) (hp : pn ≤ 12) (hn : bn ≤ 10) (hM : ∀ t, t < 2 ^ bn → mt t = bv_wi bs t bn) : vx_Met l yX3_remainder wsX3_remainder ({ frames := 7, cells := 2, slots := 12, locals := 139 }) (bv_PX [.ref x, .int i] G cI (fun H => H = H0 ∧ va_P G vwCl [(x, .inr (3, [.ref xp, .ref xb, .ref xm])), (xp, .inr (2, [.ref ap, .int (nI pn)])), (ap, .inl (cI, 12, .inl pf)), (xb, .inr (0, [.ref as, .ref ar, .ref am, .int (nI bn)])), (as, .inl (cI, 10, .inl bs)), (ar, .inl (cI, 10, .inl br)), (am, .inl (cI, 1024, .inl mt)), (xm, .inr (1, [.ref al, .ref ak])), (al, .inl (cI, 16, .inl lv)), (ak, .inl (cI, 16, .inl ks))] H)) (va_Qi (fun (r9 : Int32) (_ : Unit) => r9 = (bv_oI (bv_fnd (bv_is false bs bn (pf (pn - 1))) i (2 ^ bn))) ∧ ((if ¬ (1 ≤ pn) then 1 else (if ¬ (bv_fnd (bv_is false bs bn (pf (pn - 1))) i (2 ^ bn) ≠ none) then 2 else 0)) = 0)) (fun _ (T9 : State) => T9.heap = H0) (fun _ => False)) (vx_X (fun _ : Unit => True) (fun (X9 : String) _ _ => (X9 = "java/lang/IllegalStateException" ∧ (if ¬ (1 ≤ pn) then 1 else (if ¬ (bv_fnd (bv_is false bs bn (pf (pn - 1))) i (2 ^ bn) ≠ none) then 2 else 0)) = 1) ∨ (X9 = "java/lang/IndexOutOfBoundsException" ∧ (if ¬ (1 ≤ pn) then 1 else (if ¬ (bv_fnd (bv_is false bs bn (pf (pn - 1))) i (2 ^ bn) ≠ none) then 2 else 0)) = 2)) (fun _ => False)) 2 12 (fun _ => False) := by
  refine vx_ofW (cc := cX3_remainder) (maxL := 2) (ret := (some .int)) (by decide) rfl ?_
  intro p e s m args below meth c s₁ B hml htab hv
  obtain ⟨rfl, ⟨hH0, hP⟩, hE, hX⟩ := hv
  have hx := B.exec
  have hb := B.bytes
  have hr := B.returns
  have hts := atoms_spec (ws := wsX3_remainder) B.pre
  have hown : s.vm.findClass RX3 = some m.cls := findClass_of_methodNamed B.named
  have hlocks := B.notSynchronized
  have hK := hE.1
  subst hH0
  have hP : va_P G vwCl [(x, .inr (3, [.ref xp, .ref xb, .ref xm])), (xp, .inr (2, [.ref ap, .int (nI pn)])), (ap, .inl (cI, 12, .inl pf)), (xb, .inr (0, [.ref as, .ref ar, .ref am, .int (nI bn)])), (as, .inl (cI, 10, .inl bs)), (ar, .inl (cI, 10, .inl br)), (am, .inl (cI, 1024, .inl mt)), (xm, .inr (1, [.ref al, .ref ak])), (al, .inl (cI, 16, .inl lv)), (ak, .inl (cI, 16, .inl ks))] s.heap := hP
  have hl := lv_entry ([.ref x, .int i]) (n := 2) (Nat.le_of_ble_eq_true rfl)
  rw [lg_entry_eq]
  generalize (lg_sl ([.ref x, .int i]) ++ List.replicate (2 - (lg_sl ([.ref x, .int i])).length) Slot.unset).toArray = ls at hl ⊢
  have hl : lv_has ls 2 [(0, .ref x), (1, .int i)] := hl
  refine lv_aload_n (pc := 0) hx hb dX3_remainder_0 rfl (lv_at hl 0 rfl) ?_
  refine lv_iconst (pc := 1) (v := 0) hx hb dX3_remainder_1 (by decide) ?_
  refine lv_aload_n (pc := 2) hx hb dX3_remainder_2 rfl (lv_at hl 0 rfl) ?_
  have hPc := hP.sub (ws' := [(x, .inr (3, [.ref xp, .ref xb, .ref xm])), (xp, .inr (2, [.ref ap, .int (nI pn)])), (ap, .inl (cI, 12, .inl pf)), (xb, .inr (0, [.ref as, .ref ar, .ref am, .int (nI bn)])), (as, .inl (cI, 10, .inl bs)), (ar, .inl (cI, 10, .inl br)), (am, .inl (cI, 1024, .inl mt)), (xm, .inr (1, [.ref al, .ref ak])), (al, .inl (cI, 16, .inl lv)), (ak, .inl (cI, 16, .inl ks))]) [0, 1, 2, 3, 4, 5, 6, 7, 8, 9] rfl
  refine bv_cXi (pc := 3) (E' := (pf (pn - 1))) (vx_runV (As := []) (rest := [.int 0, .ref x]) ⟨hx, hb, hml, hown, hts⟩ (m_X3_requireTop l hst G cI s.heap x xp ap pn xb as ar am bn xm al ak pf bs br mt lv ks hp) (cwV 0 hts gX3_remainder_X3_requireTop rfl rfl rfl (by decide +kernel) ⟨Nat.le_of_ble_eq_true rfl, Nat.le_of_ble_eq_true rfl⟩) (bv_pVX hE hX ⟨rfl, hPc⟩ (va_recv hK hP (ci := 3) (q0 := 0) rfl rfl)) rfl rfl hl.1 rfl (lv_room (Nat.le_of_ble_eq_true rfl)) dX3_remainder_3 ⟨Nat.le_of_ble_eq_true rfl, Nat.le_of_ble_eq_true rfl⟩) htab hlocks (fun X h => Or.inl (⟨h.1, by rw [if_pos (h.2)]⟩)) (by decide) (by decide) rfl (fun hck0 => ?_)
  refine lv_iload_n (pc := 6) hx hb dX3_remainder_6 rfl (lv_at hl 1 rfl) ?_
  have hPc := hP.sub (ws' := [(x, .inr (3, [.ref xp, .ref xb, .ref xm])), (xp, .inr (2, [.ref ap, .int (nI pn)])), (ap, .inl (cI, 12, .inl pf)), (xb, .inr (0, [.ref as, .ref ar, .ref am, .int (nI bn)])), (as, .inl (cI, 10, .inl bs)), (ar, .inl (cI, 10, .inl br)), (am, .inl (cI, 1024, .inl mt)), (xm, .inr (1, [.ref al, .ref ak])), (al, .inl (cI, 16, .inl lv)), (ak, .inl (cI, 16, .inl ks))]) [0, 1, 2, 3, 4, 5, 6, 7, 8, 9] rfl
  refine bv_cXi (pc := 7) (E' := (bv_oI (bv_fnd (bv_is false bs bn (pf (pn - 1))) i (2 ^ bn)))) (vx_runV (As := [.int 0, .int (pf (pn - 1)), .int i]) (rest := []) ⟨hx, hb, hml, hown, hts⟩ (m_X3_requireFound l hst G cI s.heap x xp ap pn xb as ar am bn xm al ak pf bs br mt lv ks false (pf (pn - 1)) i hn hM) (cwV 3 hts gX3_remainder_X3_requireFound rfl rfl rfl (by decide +kernel) ⟨Nat.le_of_ble_eq_true rfl, Nat.le_of_ble_eq_true rfl⟩) (bv_pVX hE hX ⟨rfl, hPc⟩ (va_recv hK hP (ci := 3) (q0 := 0) rfl rfl)) rfl rfl hl.1 rfl (lv_room (Nat.le_of_ble_eq_true rfl)) dX3_remainder_7 ⟨Nat.le_of_ble_eq_true rfl, Nat.le_of_ble_eq_true rfl⟩) htab hlocks (fun X h => Or.inr (⟨h.1, by rw [if_neg (not_not_intro hck0), if_pos (h.2)]⟩)) (by decide) (by decide) rfl (fun hck1 => ?_)
  refine vx_ret ?_
  refine W.widen (k := 2) (n := 12) (by decide) (by decide) ?_
  exact W.iret (pc := 10) (v := (bv_oI (bv_fnd (bv_is false bs bn (pf (pn - 1))) i (2 ^ bn)))) hx hb hr (fun T8 hT8 hW8 => ⟨⟨(bv_oI (bv_fnd (bv_is false bs bn (pf (pn - 1))) i (2 ^ bn))), (), rfl, ⟨rfl, (by rw [if_neg (not_not_intro hck0), if_neg (not_not_intro hck1)])⟩, hT8⟩, (va_S.rf (A := fun _ => False)).F hT8⟩) (fun _ h => nomatch h) dX3_remainder_10
set_option maxHeartbeats 4000000 in
set_option maxRecDepth 100000 in
theorem m_X3_bestRemainder (l : Launch) (hst : l.stackTraces = false) (G : va_G) (cI : ClassId) (H0 : Heap) (x xp ap pn xb as ar am bn xm al ak : Nat) (pf bs br mt lv ks : Nat → Int32) (hp : pn ≤ 12) (hn : bn ≤ 10) (hM : ∀ t, t < 2 ^ bn → mt t = bv_wi bs t bn) : vx_Met l yX3_bestRemainder wsX3_bestRemainder ({ frames := 7, cells := 1, slots := 6, locals := 110 }) (bv_PX [.ref x] G cI (fun H => H = H0 ∧ va_P G vwCl [(x, .inr (3, [.ref xp, .ref xb, .ref xm])), (xp, .inr (2, [.ref ap, .int (nI pn)])), (ap, .inl (cI, 12, .inl pf)), (xb, .inr (0, [.ref as, .ref ar, .ref am, .int (nI bn)])), (as, .inl (cI, 10, .inl bs)), (ar, .inl (cI, 10, .inl br)), (am, .inl (cI, 1024, .inl mt)), (xm, .inr (1, [.ref al, .ref ak])), (al, .inl (cI, 16, .inl lv)), (ak, .inl (cI, 16, .inl ks))] H)) (va_Qi (fun (r9 : Int32) (_ : Unit) => r9 = (bv_oI (bv_best (bv_ir bs bn (pf (pn - 1))) (bv_heavy br bn) (2 ^ bn))) ∧ ((if ¬ (1 ≤ pn) then 1 else 0) = 0)) (fun _ (T9 : State) => T9.heap = H0) (fun _ => False)) (vx_X (fun _ : Unit => True) (fun (X9 : String) _ _ => (X9 = "java/lang/IllegalStateException" ∧ (if ¬ (1 ≤ pn) then 1 else 0) = 1)) (fun _ => False)) 1 6 (fun _ => False) := by
  refine vx_ofW (cc := cX3_bestRemainder) (maxL := 1) (ret := (some .int)) (by decide) rfl ?_
  intro p e s m args below meth c s₁ B hml htab hv
  obtain ⟨rfl, ⟨hH0, hP⟩, hE, hX⟩ := hv
  have hx := B.exec
  have hb := B.bytes
  have hr := B.returns
  have hts := atoms_spec (ws := wsX3_bestRemainder) B.pre
  have hown : s.vm.findClass RX3 = some m.cls := findClass_of_methodNamed B.named
  have hlocks := B.notSynchronized
  have hK := hE.1
  have hw0 := hts (.fieldLink RX3 19 "BeliefReviser" "base" "LBeliefReviser$Base;") (List.mem_of_getElem? (i := 1) rfl)
  have hw1 : ∀ w ∈ u_ws RX3 TX3 3, w ∈ wsX3_bestRemainder := by decide +kernel
  subst hH0
  have hP : va_P G vwCl [(x, .inr (3, [.ref xp, .ref xb, .ref xm])), (xp, .inr (2, [.ref ap, .int (nI pn)])), (ap, .inl (cI, 12, .inl pf)), (xb, .inr (0, [.ref as, .ref ar, .ref am, .int (nI bn)])), (as, .inl (cI, 10, .inl bs)), (ar, .inl (cI, 10, .inl br)), (am, .inl (cI, 1024, .inl mt)), (xm, .inr (1, [.ref al, .ref ak])), (al, .inl (cI, 16, .inl lv)), (ak, .inl (cI, 16, .inl ks))] s.heap := hP
  have hl := lv_entry ([.ref x]) (n := 1) (Nat.le_of_ble_eq_true rfl)
  rw [lg_entry_eq]
  generalize (lg_sl ([.ref x]) ++ List.replicate (1 - (lg_sl ([.ref x])).length) Slot.unset).toArray = ls at hl ⊢
  have hl : lv_has ls 1 [(0, .ref x)] := hl
  refine lv_aload_n (pc := 0) hx hb dX3_bestRemainder_0 rfl (lv_at hl 0 rfl) ?_
  refine va_get (pc := 1) (D := G) (ci := 3) (v := .ref xb) (C := RX3) (T := TX3) (N := 3) hx hb hts hw1 hown hK hP 0 rfl rfl 1 (by decide) hw0 (fun _ h9 => h9) rfl dX3_bestRemainder_1 ?_
  refine lv_aload_n (pc := 4) hx hb dX3_bestRemainder_4 rfl (lv_at hl 0 rfl) ?_
  have hPc := hP.sub (ws' := [(x, .inr (3, [.ref xp, .ref xb, .ref xm])), (xp, .inr (2, [.ref ap, .int (nI pn)])), (ap, .inl (cI, 12, .inl pf)), (xb, .inr (0, [.ref as, .ref ar, .ref am, .int (nI bn)])), (as, .inl (cI, 10, .inl bs)), (ar, .inl (cI, 10, .inl br)), (am, .inl (cI, 1024, .inl mt)), (xm, .inr (1, [.ref al, .ref ak])), (al, .inl (cI, 16, .inl lv)), (ak, .inl (cI, 16, .inl ks))]) [0, 1, 2, 3, 4, 5, 6, 7, 8, 9] rfl
  refine bv_cXi (pc := 5) (E' := (pf (pn - 1))) (vx_runV (As := []) (rest := [.ref xb]) ⟨hx, hb, hml, hown, hts⟩ (m_X3_requireTop l hst G cI s.heap x xp ap pn xb as ar am bn xm al ak pf bs br mt lv ks hp) (cwV 0 hts gX3_bestRemainder_X3_requireTop rfl rfl rfl (by decide +kernel) ⟨Nat.le_of_ble_eq_true rfl, Nat.le_of_ble_eq_true rfl⟩) (bv_pVX hE hX ⟨rfl, hPc⟩ (va_recv hK hP (ci := 3) (q0 := 0) rfl rfl)) rfl rfl hl.1 rfl (lv_room (Nat.le_of_ble_eq_true rfl)) dX3_bestRemainder_5 ⟨Nat.le_of_ble_eq_true rfl, Nat.le_of_ble_eq_true rfl⟩) htab hlocks (fun X h => ⟨h.1, by rw [if_pos (h.2)]⟩) (by decide) (by decide) rfl (fun hck0 => ?_)
  have hPc := hP.sub (ws' := [(xb, .inr (0, [.ref as, .ref ar, .ref am, .int (nI bn)])), (as, .inl (cI, 10, .inl bs)), (ar, .inl (cI, 10, .inl br)), (am, .inl (cI, 1024, .inl mt))]) [3, 4, 5, 6] rfl
  refine bv_cSi (pc := 8) (E' := (bv_oI (bv_best (bv_ir bs bn (pf (pn - 1))) (bv_heavy br bn) (2 ^ bn)))) (va_runV (As := [.int (pf (pn - 1))]) (rest := []) ⟨hx, hb, hml, hown, hts⟩ (m_X0_heaviestRemainder l G cI xb as ar am bn bs br mt (pf (pn - 1)) hn hM) (cwV 1 hts gX3_bestRemainder_X0_heaviestRemainder rfl rfl rfl (by decide +kernel) ⟨Nat.le_of_ble_eq_true rfl, Nat.le_of_ble_eq_true rfl⟩) (bv_pV hE hPc (va_recv hK hP (ci := 0) (q0 := 3) rfl rfl)) rfl rfl hl.1 rfl (lv_room (Nat.le_of_ble_eq_true rfl)) dX3_bestRemainder_8 ⟨Nat.le_of_ble_eq_true rfl, Nat.le_of_ble_eq_true rfl⟩) rfl ?_
  refine vx_ret ?_
  refine W.widen (k := 1) (n := 6) (by decide) (by decide) ?_
  exact W.iret (pc := 11) (v := (bv_oI (bv_best (bv_ir bs bn (pf (pn - 1))) (bv_heavy br bn) (2 ^ bn)))) hx hb hr (fun T8 hT8 hW8 => ⟨⟨(bv_oI (bv_best (bv_ir bs bn (pf (pn - 1))) (bv_heavy br bn) (2 ^ bn))), (), rfl, ⟨rfl, (by rw [if_neg (not_not_intro hck0)])⟩, hT8⟩, (va_S.rf (A := fun _ => False)).F hT8⟩) (fun _ h => nomatch h) dX3_bestRemainder_11
set_option maxHeartbeats 4000000 in
set_option maxRecDepth 100000 in
theorem m_X3_cut (l : Launch) (hst : l.stackTraces = false) (G : va_G) (cI : ClassId) (H0 : Heap) (x xp ap pn xb as ar am bn xm al ak : Nat) (pf bs br mt lv ks : Nat → Int32) (hp : pn ≤ 12) (hn : bn ≤ 10) (hM : ∀ t, t < 2 ^ bn → mt t = bv_wi bs t bn) : vx_Met l yX3_cut wsX3_cut ({ frames := 7, cells := 1, slots := 6, locals := 112 }) (bv_PX [.ref x] G cI (fun H => H = H0 ∧ va_P G vwCl [(x, .inr (3, [.ref xp, .ref xb, .ref xm])), (xp, .inr (2, [.ref ap, .int (nI pn)])), (ap, .inl (cI, 12, .inl pf)), (xb, .inr (0, [.ref as, .ref ar, .ref am, .int (nI bn)])), (as, .inl (cI, 10, .inl bs)), (ar, .inl (cI, 10, .inl br)), (am, .inl (cI, 1024, .inl mt)), (xm, .inr (1, [.ref al, .ref ak])), (al, .inl (cI, 16, .inl lv)), (ak, .inl (cI, 16, .inl ks))] H)) (va_Qi (fun (r9 : Int32) (_ : Unit) => r9 = (bv_cut (bv_ik bs bn (pf (pn - 1))) (bv_lr br bn) (2 ^ bn)) ∧ ((if ¬ (1 ≤ pn) then 1 else 0) = 0)) (fun _ (T9 : State) => T9.heap = H0) (fun _ => False)) (vx_X (fun _ : Unit => True) (fun (X9 : String) _ _ => (X9 = "java/lang/IllegalStateException" ∧ (if ¬ (1 ≤ pn) then 1 else 0) = 1)) (fun _ => False)) 1 6 (fun _ => False) := by
  refine vx_ofW (cc := cX3_cut) (maxL := 1) (ret := (some .int)) (by decide) rfl ?_
  intro p e s m args below meth c s₁ B hml htab hv
  obtain ⟨rfl, ⟨hH0, hP⟩, hE, hX⟩ := hv
  have hx := B.exec
  have hb := B.bytes
  have hr := B.returns
  have hts := atoms_spec (ws := wsX3_cut) B.pre
  have hown : s.vm.findClass RX3 = some m.cls := findClass_of_methodNamed B.named
  have hlocks := B.notSynchronized
  have hK := hE.1
  have hw0 := hts (.fieldLink RX3 19 "BeliefReviser" "base" "LBeliefReviser$Base;") (List.mem_of_getElem? (i := 1) rfl)
  have hw1 : ∀ w ∈ u_ws RX3 TX3 3, w ∈ wsX3_cut := by decide +kernel
  subst hH0
  have hP : va_P G vwCl [(x, .inr (3, [.ref xp, .ref xb, .ref xm])), (xp, .inr (2, [.ref ap, .int (nI pn)])), (ap, .inl (cI, 12, .inl pf)), (xb, .inr (0, [.ref as, .ref ar, .ref am, .int (nI bn)])), (as, .inl (cI, 10, .inl bs)), (ar, .inl (cI, 10, .inl br)), (am, .inl (cI, 1024, .inl mt)), (xm, .inr (1, [.ref al, .ref ak])), (al, .inl (cI, 16, .inl lv)), (ak, .inl (cI, 16, .inl ks))] s.heap := hP
  have hl := lv_entry ([.ref x]) (n := 1) (Nat.le_of_ble_eq_true rfl)
  rw [lg_entry_eq]
  generalize (lg_sl ([.ref x]) ++ List.replicate (1 - (lg_sl ([.ref x])).length) Slot.unset).toArray = ls at hl ⊢
  have hl : lv_has ls 1 [(0, .ref x)] := hl
  refine lv_aload_n (pc := 0) hx hb dX3_cut_0 rfl (lv_at hl 0 rfl) ?_
  refine va_get (pc := 1) (D := G) (ci := 3) (v := .ref xb) (C := RX3) (T := TX3) (N := 3) hx hb hts hw1 hown hK hP 0 rfl rfl 1 (by decide) hw0 (fun _ h9 => h9) rfl dX3_cut_1 ?_
  refine lv_aload_n (pc := 4) hx hb dX3_cut_4 rfl (lv_at hl 0 rfl) ?_
  have hPc := hP.sub (ws' := [(x, .inr (3, [.ref xp, .ref xb, .ref xm])), (xp, .inr (2, [.ref ap, .int (nI pn)])), (ap, .inl (cI, 12, .inl pf)), (xb, .inr (0, [.ref as, .ref ar, .ref am, .int (nI bn)])), (as, .inl (cI, 10, .inl bs)), (ar, .inl (cI, 10, .inl br)), (am, .inl (cI, 1024, .inl mt)), (xm, .inr (1, [.ref al, .ref ak])), (al, .inl (cI, 16, .inl lv)), (ak, .inl (cI, 16, .inl ks))]) [0, 1, 2, 3, 4, 5, 6, 7, 8, 9] rfl
  refine bv_cXi (pc := 5) (E' := (pf (pn - 1))) (vx_runV (As := []) (rest := [.ref xb]) ⟨hx, hb, hml, hown, hts⟩ (m_X3_requireTop l hst G cI s.heap x xp ap pn xb as ar am bn xm al ak pf bs br mt lv ks hp) (cwV 0 hts gX3_cut_X3_requireTop rfl rfl rfl (by decide +kernel) ⟨Nat.le_of_ble_eq_true rfl, Nat.le_of_ble_eq_true rfl⟩) (bv_pVX hE hX ⟨rfl, hPc⟩ (va_recv hK hP (ci := 3) (q0 := 0) rfl rfl)) rfl rfl hl.1 rfl (lv_room (Nat.le_of_ble_eq_true rfl)) dX3_cut_5 ⟨Nat.le_of_ble_eq_true rfl, Nat.le_of_ble_eq_true rfl⟩) htab hlocks (fun X h => ⟨h.1, by rw [if_pos (h.2)]⟩) (by decide) (by decide) rfl (fun hck0 => ?_)
  have hPc := hP.sub (ws' := [(xb, .inr (0, [.ref as, .ref ar, .ref am, .int (nI bn)])), (as, .inl (cI, 10, .inl bs)), (ar, .inl (cI, 10, .inl br)), (am, .inl (cI, 1024, .inl mt))]) [3, 4, 5, 6] rfl
  refine bv_cSi (pc := 8) (E' := (bv_cut (bv_ik bs bn (pf (pn - 1))) (bv_lr br bn) (2 ^ bn))) (va_runV (As := [.int (pf (pn - 1))]) (rest := []) ⟨hx, hb, hml, hown, hts⟩ (m_X0_cutFor l G cI xb as ar am bn bs br mt (pf (pn - 1)) hn hM) (cwV 1 hts gX3_cut_X0_cutFor rfl rfl rfl (by decide +kernel) ⟨Nat.le_of_ble_eq_true rfl, Nat.le_of_ble_eq_true rfl⟩) (bv_pV hE hPc (va_recv hK hP (ci := 0) (q0 := 3) rfl rfl)) rfl rfl hl.1 rfl (lv_room (Nat.le_of_ble_eq_true rfl)) dX3_cut_8 ⟨Nat.le_of_ble_eq_true rfl, Nat.le_of_ble_eq_true rfl⟩) rfl ?_
  refine vx_ret ?_
  refine W.widen (k := 1) (n := 6) (by decide) (by decide) ?_
  exact W.iret (pc := 11) (v := (bv_cut (bv_ik bs bn (pf (pn - 1))) (bv_lr br bn) (2 ^ bn))) hx hb hr (fun T8 hT8 hW8 => ⟨⟨(bv_cut (bv_ik bs bn (pf (pn - 1))) (bv_lr br bn) (2 ^ bn)), (), rfl, ⟨rfl, (by rw [if_neg (not_not_intro hck0)])⟩, hT8⟩, (va_S.rf (A := fun _ => False)).F hT8⟩) (fun _ h => nomatch h) dX3_cut_11
set_option maxHeartbeats 4000000 in
set_option maxRecDepth 100000 in
theorem m_X3_degree (l : Launch) (hst : l.stackTraces = false) (G : va_G) (cI : ClassId) (H0 : Heap) (x xp ap pn xb as ar am bn xm al ak : Nat) (pf bs br mt lv ks : Nat → Int32) (hp : pn ≤ 12) (hn : bn ≤ 10) (hM : ∀ t, t < 2 ^ bn → mt t = bv_wi bs t bn) : vx_Met l yX3_degree wsX3_degree ({ frames := 7, cells := 1, slots := 6, locals := 110 }) (bv_PX [.ref x] G cI (fun H => H = H0 ∧ va_P G vwCl [(x, .inr (3, [.ref xp, .ref xb, .ref xm])), (xp, .inr (2, [.ref ap, .int (nI pn)])), (ap, .inl (cI, 12, .inl pf)), (xb, .inr (0, [.ref as, .ref ar, .ref am, .int (nI bn)])), (as, .inl (cI, 10, .inl bs)), (ar, .inl (cI, 10, .inl br)), (am, .inl (cI, 1024, .inl mt)), (xm, .inr (1, [.ref al, .ref ak])), (al, .inl (cI, 16, .inl lv)), (ak, .inl (cI, 16, .inl ks))] H)) (va_Qi (fun (r9 : Int32) (_ : Unit) => r9 = (nI (bv_degn bs br bn (pf (pn - 1)))) ∧ ((if ¬ (1 ≤ pn) then 1 else 0) = 0)) (fun _ (T9 : State) => T9.heap = H0) (fun _ => False)) (vx_X (fun _ : Unit => True) (fun (X9 : String) _ _ => (X9 = "java/lang/IllegalStateException" ∧ (if ¬ (1 ≤ pn) then 1 else 0) = 1)) (fun _ => False)) 1 6 (fun _ => False) := by
  refine vx_ofW (cc := cX3_degree) (maxL := 1) (ret := (some .int)) (by decide) rfl ?_
  intro p e s m args below meth c s₁ B hml htab hv
  obtain ⟨rfl, ⟨hH0, hP⟩, hE, hX⟩ := hv
  have hx := B.exec
  have hb := B.bytes
  have hr := B.returns
  have hts := atoms_spec (ws := wsX3_degree) B.pre
  have hown : s.vm.findClass RX3 = some m.cls := findClass_of_methodNamed B.named
  have hlocks := B.notSynchronized
  have hK := hE.1
  have hw0 := hts (.fieldLink RX3 19 "BeliefReviser" "base" "LBeliefReviser$Base;") (List.mem_of_getElem? (i := 1) rfl)
  have hw1 : ∀ w ∈ u_ws RX3 TX3 3, w ∈ wsX3_degree := by decide +kernel
  subst hH0
  have hP : va_P G vwCl [(x, .inr (3, [.ref xp, .ref xb, .ref xm])), (xp, .inr (2, [.ref ap, .int (nI pn)])), (ap, .inl (cI, 12, .inl pf)), (xb, .inr (0, [.ref as, .ref ar, .ref am, .int (nI bn)])), (as, .inl (cI, 10, .inl bs)), (ar, .inl (cI, 10, .inl br)), (am, .inl (cI, 1024, .inl mt)), (xm, .inr (1, [.ref al, .ref ak])), (al, .inl (cI, 16, .inl lv)), (ak, .inl (cI, 16, .inl ks))] s.heap := hP
  have hl := lv_entry ([.ref x]) (n := 1) (Nat.le_of_ble_eq_true rfl)
  rw [lg_entry_eq]
  generalize (lg_sl ([.ref x]) ++ List.replicate (1 - (lg_sl ([.ref x])).length) Slot.unset).toArray = ls at hl ⊢
  have hl : lv_has ls 1 [(0, .ref x)] := hl
  refine lv_aload_n (pc := 0) hx hb dX3_degree_0 rfl (lv_at hl 0 rfl) ?_
  refine va_get (pc := 1) (D := G) (ci := 3) (v := .ref xb) (C := RX3) (T := TX3) (N := 3) hx hb hts hw1 hown hK hP 0 rfl rfl 1 (by decide) hw0 (fun _ h9 => h9) rfl dX3_degree_1 ?_
  refine lv_aload_n (pc := 4) hx hb dX3_degree_4 rfl (lv_at hl 0 rfl) ?_
  have hPc := hP.sub (ws' := [(x, .inr (3, [.ref xp, .ref xb, .ref xm])), (xp, .inr (2, [.ref ap, .int (nI pn)])), (ap, .inl (cI, 12, .inl pf)), (xb, .inr (0, [.ref as, .ref ar, .ref am, .int (nI bn)])), (as, .inl (cI, 10, .inl bs)), (ar, .inl (cI, 10, .inl br)), (am, .inl (cI, 1024, .inl mt)), (xm, .inr (1, [.ref al, .ref ak])), (al, .inl (cI, 16, .inl lv)), (ak, .inl (cI, 16, .inl ks))]) [0, 1, 2, 3, 4, 5, 6, 7, 8, 9] rfl
  refine bv_cXi (pc := 5) (E' := (pf (pn - 1))) (vx_runV (As := []) (rest := [.ref xb]) ⟨hx, hb, hml, hown, hts⟩ (m_X3_requireTop l hst G cI s.heap x xp ap pn xb as ar am bn xm al ak pf bs br mt lv ks hp) (cwV 0 hts gX3_degree_X3_requireTop rfl rfl rfl (by decide +kernel) ⟨Nat.le_of_ble_eq_true rfl, Nat.le_of_ble_eq_true rfl⟩) (bv_pVX hE hX ⟨rfl, hPc⟩ (va_recv hK hP (ci := 3) (q0 := 0) rfl rfl)) rfl rfl hl.1 rfl (lv_room (Nat.le_of_ble_eq_true rfl)) dX3_degree_5 ⟨Nat.le_of_ble_eq_true rfl, Nat.le_of_ble_eq_true rfl⟩) htab hlocks (fun X h => ⟨h.1, by rw [if_pos (h.2)]⟩) (by decide) (by decide) rfl (fun hck0 => ?_)
  have hPc := hP.sub (ws' := [(xb, .inr (0, [.ref as, .ref ar, .ref am, .int (nI bn)])), (as, .inl (cI, 10, .inl bs)), (ar, .inl (cI, 10, .inl br)), (am, .inl (cI, 1024, .inl mt))]) [3, 4, 5, 6] rfl
  refine bv_cSi (pc := 8) (E' := (nI (bv_degn bs br bn (pf (pn - 1))))) (va_runV (As := [.int (pf (pn - 1))]) (rest := []) ⟨hx, hb, hml, hown, hts⟩ (m_X0_degreeOf l G cI xb as ar am bn bs br mt (pf (pn - 1)) hn hM) (cwV 1 hts gX3_degree_X0_degreeOf rfl rfl rfl (by decide +kernel) ⟨Nat.le_of_ble_eq_true rfl, Nat.le_of_ble_eq_true rfl⟩) (bv_pV hE hPc (va_recv hK hP (ci := 0) (q0 := 3) rfl rfl)) rfl rfl hl.1 rfl (lv_room (Nat.le_of_ble_eq_true rfl)) dX3_degree_8 ⟨Nat.le_of_ble_eq_true rfl, Nat.le_of_ble_eq_true rfl⟩) rfl ?_
  refine vx_ret ?_
  refine W.widen (k := 1) (n := 6) (by decide) (by decide) ?_
  exact W.iret (pc := 11) (v := (nI (bv_degn bs br bn (pf (pn - 1))))) hx hb hr (fun T8 hT8 hW8 => ⟨⟨(nI (bv_degn bs br bn (pf (pn - 1)))), (), rfl, ⟨rfl, (by rw [if_neg (not_not_intro hck0)])⟩, hT8⟩, (va_S.rf (A := fun _ => False)).F hT8⟩) (fun _ h => nomatch h) dX3_degree_11
set_option maxHeartbeats 4000000 in
set_option maxRecDepth 100000 in
theorem m_X3_isBelieved (l : Launch) (hst : l.stackTraces = false) (G : va_G) (cI : ClassId) (H0 : Heap) (x xp ap pn xb as ar am bn xm al ak : Nat) (pf bs br mt lv ks : Nat → Int32) (hp : pn ≤ 12) (hn : bn ≤ 10) (hM : ∀ t, t < 2 ^ bn → mt t = bv_wi bs t bn) : vx_Met l yX3_isBelieved wsX3_isBelieved ({ frames := 7, cells := 1, slots := 6, locals := 110 }) (bv_PX [.ref x] G cI (fun H => H = H0 ∧ va_P G vwCl [(x, .inr (3, [.ref xp, .ref xb, .ref xm])), (xp, .inr (2, [.ref ap, .int (nI pn)])), (ap, .inl (cI, 12, .inl pf)), (xb, .inr (0, [.ref as, .ref ar, .ref am, .int (nI bn)])), (as, .inl (cI, 10, .inl bs)), (ar, .inl (cI, 10, .inl br)), (am, .inl (cI, 1024, .inl mt)), (xm, .inr (1, [.ref al, .ref ak])), (al, .inl (cI, 16, .inl lv)), (ak, .inl (cI, 16, .inl ks))] H)) (va_Qi (fun (r9 : Int32) (_ : Unit) => r9 = (bv_b (decide (bv_degn bs br bn 0 < bv_degn bs br bn (pf (pn - 1))))) ∧ ((if ¬ (1 ≤ pn) then 1 else 0) = 0)) (fun _ (T9 : State) => T9.heap = H0) (fun _ => False)) (vx_X (fun _ : Unit => True) (fun (X9 : String) _ _ => (X9 = "java/lang/IllegalStateException" ∧ (if ¬ (1 ≤ pn) then 1 else 0) = 1)) (fun _ => False)) 1 6 (fun _ => False) := by
  refine vx_ofW (cc := cX3_isBelieved) (maxL := 1) (ret := (some .boolean)) (by decide) rfl ?_
  intro p e s m args below meth c s₁ B hml htab hv
  obtain ⟨rfl, ⟨hH0, hP⟩, hE, hX⟩ := hv
  have hx := B.exec
  have hb := B.bytes
  have hr := B.returns
  have hts := atoms_spec (ws := wsX3_isBelieved) B.pre
  have hown : s.vm.findClass RX3 = some m.cls := findClass_of_methodNamed B.named
  have hlocks := B.notSynchronized
  have hK := hE.1
  have hw0 := hts (.fieldLink RX3 19 "BeliefReviser" "base" "LBeliefReviser$Base;") (List.mem_of_getElem? (i := 1) rfl)
  have hw1 : ∀ w ∈ u_ws RX3 TX3 3, w ∈ wsX3_isBelieved := by decide +kernel
  subst hH0
  have hP : va_P G vwCl [(x, .inr (3, [.ref xp, .ref xb, .ref xm])), (xp, .inr (2, [.ref ap, .int (nI pn)])), (ap, .inl (cI, 12, .inl pf)), (xb, .inr (0, [.ref as, .ref ar, .ref am, .int (nI bn)])), (as, .inl (cI, 10, .inl bs)), (ar, .inl (cI, 10, .inl br)), (am, .inl (cI, 1024, .inl mt)), (xm, .inr (1, [.ref al, .ref ak])), (al, .inl (cI, 16, .inl lv)), (ak, .inl (cI, 16, .inl ks))] s.heap := hP
  have hl := lv_entry ([.ref x]) (n := 1) (Nat.le_of_ble_eq_true rfl)
  rw [lg_entry_eq]
  generalize (lg_sl ([.ref x]) ++ List.replicate (1 - (lg_sl ([.ref x])).length) Slot.unset).toArray = ls at hl ⊢
  have hl : lv_has ls 1 [(0, .ref x)] := hl
  refine lv_aload_n (pc := 0) hx hb dX3_isBelieved_0 rfl (lv_at hl 0 rfl) ?_
  refine va_get (pc := 1) (D := G) (ci := 3) (v := .ref xb) (C := RX3) (T := TX3) (N := 3) hx hb hts hw1 hown hK hP 0 rfl rfl 1 (by decide) hw0 (fun _ h9 => h9) rfl dX3_isBelieved_1 ?_
  refine lv_aload_n (pc := 4) hx hb dX3_isBelieved_4 rfl (lv_at hl 0 rfl) ?_
  have hPc := hP.sub (ws' := [(x, .inr (3, [.ref xp, .ref xb, .ref xm])), (xp, .inr (2, [.ref ap, .int (nI pn)])), (ap, .inl (cI, 12, .inl pf)), (xb, .inr (0, [.ref as, .ref ar, .ref am, .int (nI bn)])), (as, .inl (cI, 10, .inl bs)), (ar, .inl (cI, 10, .inl br)), (am, .inl (cI, 1024, .inl mt)), (xm, .inr (1, [.ref al, .ref ak])), (al, .inl (cI, 16, .inl lv)), (ak, .inl (cI, 16, .inl ks))]) [0, 1, 2, 3, 4, 5, 6, 7, 8, 9] rfl
  refine bv_cXi (pc := 5) (E' := (pf (pn - 1))) (vx_runV (As := []) (rest := [.ref xb]) ⟨hx, hb, hml, hown, hts⟩ (m_X3_requireTop l hst G cI s.heap x xp ap pn xb as ar am bn xm al ak pf bs br mt lv ks hp) (cwV 0 hts gX3_isBelieved_X3_requireTop rfl rfl rfl (by decide +kernel) ⟨Nat.le_of_ble_eq_true rfl, Nat.le_of_ble_eq_true rfl⟩) (bv_pVX hE hX ⟨rfl, hPc⟩ (va_recv hK hP (ci := 3) (q0 := 0) rfl rfl)) rfl rfl hl.1 rfl (lv_room (Nat.le_of_ble_eq_true rfl)) dX3_isBelieved_5 ⟨Nat.le_of_ble_eq_true rfl, Nat.le_of_ble_eq_true rfl⟩) htab hlocks (fun X h => ⟨h.1, by rw [if_pos (h.2)]⟩) (by decide) (by decide) rfl (fun hck0 => ?_)
  have hPc := hP.sub (ws' := [(xb, .inr (0, [.ref as, .ref ar, .ref am, .int (nI bn)])), (as, .inl (cI, 10, .inl bs)), (ar, .inl (cI, 10, .inl br)), (am, .inl (cI, 1024, .inl mt))]) [3, 4, 5, 6] rfl
  refine bv_cSi (pc := 8) (E' := (nI (bv_degn bs br bn (pf (pn - 1))))) (va_runV (As := [.int (pf (pn - 1))]) (rest := []) ⟨hx, hb, hml, hown, hts⟩ (m_X0_degreeOf l G cI xb as ar am bn bs br mt (pf (pn - 1)) hn hM) (cwV 1 hts gX3_isBelieved_X0_degreeOf rfl rfl rfl (by decide +kernel) ⟨Nat.le_of_ble_eq_true rfl, Nat.le_of_ble_eq_true rfl⟩) (bv_pV hE hPc (va_recv hK hP (ci := 0) (q0 := 3) rfl rfl)) rfl rfl hl.1 rfl (lv_room (Nat.le_of_ble_eq_true rfl)) dX3_isBelieved_8 ⟨Nat.le_of_ble_eq_true rfl, Nat.le_of_ble_eq_true rfl⟩) rfl ?_
  refine lv_aload_n (pc := 11) hx hb dX3_isBelieved_11 rfl (lv_at hl 0 rfl) ?_
  refine va_get (pc := 12) (D := G) (ci := 3) (v := .ref xb) (C := RX3) (T := TX3) (N := 3) hx hb hts hw1 hown hK hP 0 rfl rfl 1 (by decide) hw0 (fun _ h9 => h9) rfl dX3_isBelieved_12 ?_
  refine lv_iconst (pc := 15) (v := 0) hx hb dX3_isBelieved_15 (by decide) ?_
  have hPc := hP.sub (ws' := [(xb, .inr (0, [.ref as, .ref ar, .ref am, .int (nI bn)])), (as, .inl (cI, 10, .inl bs)), (ar, .inl (cI, 10, .inl br)), (am, .inl (cI, 1024, .inl mt))]) [3, 4, 5, 6] rfl
  refine bv_cSi (pc := 16) (E' := (nI (bv_degn bs br bn 0))) (va_runV (As := [.int 0]) (rest := [.int (nI (bv_degn bs br bn (pf (pn - 1))))]) ⟨hx, hb, hml, hown, hts⟩ (m_X0_degreeOf l G cI xb as ar am bn bs br mt 0 hn hM) (cwV 1 hts gX3_isBelieved_X0_degreeOf rfl rfl rfl (by decide +kernel) ⟨Nat.le_of_ble_eq_true rfl, Nat.le_of_ble_eq_true rfl⟩) (bv_pV hE hPc (va_recv hK hP (ci := 0) (q0 := 3) rfl rfl)) rfl rfl hl.1 rfl (lv_room (Nat.le_of_ble_eq_true rfl)) dX3_isBelieved_16 ⟨Nat.le_of_ble_eq_true rfl, Nat.le_of_ble_eq_true rfl⟩) rfl ?_
  refine lv_icmp_le (pc := 19) (tgt := 26) hx hb dX3_isBelieved_19 (by decide) (fun c19_5 => ?_) (fun c19_5 => ?_)
  · have h1 := (nI_leI (by have := bv_degn_le bs br bn (pf (pn - 1)); omega) (by have := bv_degn_le bs br bn 0; omega)).mp c19_5
    refine lv_iconst (pc := 26) (v := 0) hx hb dX3_isBelieved_26 (by decide) ?_
    refine vx_ret ?_
    refine W.widen (k := 1) (n := 6) (by decide) (by decide) ?_
    exact W.zret (pc := 27) (v := 0) hx hb hr rfl (fun T8 hT8 hW8 => ⟨⟨0, (), rfl, ⟨(by rw [decide_eq_false (Nat.not_lt.mpr h1)]; rfl), (by rw [if_neg (not_not_intro hck0)])⟩, hT8⟩, (va_S.rf (A := fun _ => False)).F hT8⟩) (fun _ h => nomatch h) dX3_isBelieved_27
  · have h1 := fun h => c19_5 ((nI_leI (by have := bv_degn_le bs br bn (pf (pn - 1)); omega) (by have := bv_degn_le bs br bn 0; omega)).mpr h)
    refine lv_iconst (pc := 22) (v := 1) hx hb dX3_isBelieved_22 (by decide) ?_
    refine lv_goto (pc := 23) (tgt := 27) hx hb dX3_isBelieved_23 (by decide) ?_
    refine vx_ret ?_
    refine W.widen (k := 1) (n := 6) (by decide) (by decide) ?_
    exact W.zret (pc := 27) (v := 1) hx hb hr rfl (fun T8 hT8 hW8 => ⟨⟨1, (), rfl, ⟨(by rw [decide_eq_true (Nat.not_le.mp h1)]; rfl), (by rw [if_neg (not_not_intro hck0)])⟩, hT8⟩, (va_S.rf (A := fun _ => False)).F hT8⟩) (fun _ h => nomatch h) dX3_isBelieved_27
set_option maxHeartbeats 4000000 in
set_option maxRecDepth 100000 in
theorem m_X3_conflict (l : Launch) (G : va_G) (cI : ClassId) (x xp ap pn xb as ar am bn xm al ak : Nat) (pf bs br mt lv ks : Nat → Int32) (hp : pn ≤ 12) (hn : bn ≤ 10) (hM : ∀ t, t < 2 ^ bn → mt t = bv_wi bs t bn) : Met l yX3_conflict wsX3_conflict ({ frames := 4, cells := 0, slots := 0, locals := 87 }) (bv_P [.ref x] G cI (fun H => va_P G vwCl [(x, .inr (3, [.ref xp, .ref xb, .ref xm])), (xp, .inr (2, [.ref ap, .int (nI pn)])), (ap, .inl (cI, 12, .inl pf)), (xb, .inr (0, [.ref as, .ref ar, .ref am, .int (nI bn)])), (as, .inl (cI, 10, .inl bs)), (ar, .inl (cI, 10, .inl br)), (am, .inl (cI, 1024, .inl mt)), (xm, .inr (1, [.ref al, .ref ak])), (al, .inl (cI, 16, .inl lv)), (ak, .inl (cI, 16, .inl ks))] H)) (vp_Si (fun r9 : Int32 => r9 = (nI (bv_degn bs br bn 0)))) 0 0 (fun _ => False) := by
  refine Met.ofW (cc := cX3_conflict) (maxL := 1) (ret := (some .int)) (by decide) rfl ?_
  intro p e s m args below meth c s₁ B hml hv
  obtain ⟨rfl, hP, hE⟩ := hv
  have hx := B.exec
  have hb := B.bytes
  have hr := B.returns
  have hts := atoms_spec (ws := wsX3_conflict) B.pre
  have hown : s.vm.findClass RX3 = some m.cls := findClass_of_methodNamed B.named
  have hlocks := B.notSynchronized
  have hK := hE.1
  have hw0 := hts (.fieldLink RX3 19 "BeliefReviser" "base" "LBeliefReviser$Base;") (List.mem_of_getElem? (i := 1) rfl)
  have hw1 : ∀ w ∈ u_ws RX3 TX3 3, w ∈ wsX3_conflict := by decide +kernel
  have hP : va_P G vwCl [(x, .inr (3, [.ref xp, .ref xb, .ref xm])), (xp, .inr (2, [.ref ap, .int (nI pn)])), (ap, .inl (cI, 12, .inl pf)), (xb, .inr (0, [.ref as, .ref ar, .ref am, .int (nI bn)])), (as, .inl (cI, 10, .inl bs)), (ar, .inl (cI, 10, .inl br)), (am, .inl (cI, 1024, .inl mt)), (xm, .inr (1, [.ref al, .ref ak])), (al, .inl (cI, 16, .inl lv)), (ak, .inl (cI, 16, .inl ks))] s.heap := hP
  have hl := lv_entry ([.ref x]) (n := 1) (Nat.le_of_ble_eq_true rfl)
  rw [lg_entry_eq]
  generalize (lg_sl ([.ref x]) ++ List.replicate (1 - (lg_sl ([.ref x])).length) Slot.unset).toArray = ls at hl ⊢
  have hl : lv_has ls 1 [(0, .ref x)] := hl
  refine lv_aload_n (pc := 0) hx hb dX3_conflict_0 rfl (lv_at hl 0 rfl) ?_
  refine va_get (pc := 1) (D := G) (ci := 3) (v := .ref xb) (C := RX3) (T := TX3) (N := 3) hx hb hts hw1 hown hK hP 0 rfl rfl 1 (by decide) hw0 (fun _ h9 => h9) rfl dX3_conflict_1 ?_
  refine lv_iconst (pc := 4) (v := 0) hx hb dX3_conflict_4 (by decide) ?_
  have hPc := hP.sub (ws' := [(xb, .inr (0, [.ref as, .ref ar, .ref am, .int (nI bn)])), (as, .inl (cI, 10, .inl bs)), (ar, .inl (cI, 10, .inl br)), (am, .inl (cI, 1024, .inl mt))]) [3, 4, 5, 6] rfl
  refine bv_cSi (pc := 5) (E' := (nI (bv_degn bs br bn 0))) (va_runV (As := [.int 0]) (rest := []) ⟨hx, hb, hml, hown, hts⟩ (m_X0_degreeOf l G cI xb as ar am bn bs br mt 0 hn hM) (cwV 1 hts gX3_conflict_X0_degreeOf rfl rfl rfl (by decide +kernel) ⟨Nat.le_of_ble_eq_true rfl, Nat.le_of_ble_eq_true rfl⟩) (bv_pV hE hPc (va_recv hK hP (ci := 0) (q0 := 3) rfl rfl)) rfl rfl hl.1 rfl (lv_room (Nat.le_of_ble_eq_true rfl)) dX3_conflict_5 ⟨Nat.le_of_ble_eq_true rfl, Nat.le_of_ble_eq_true rfl⟩) rfl ?_
  exact W.iret (pc := 8) (v := (nI (bv_degn bs br bn 0))) hx hb hr (fun T8 hT8 hW8 => ⟨(nI (bv_degn bs br bn 0)), rfl, rfl, hT8⟩) (fun _ h => nomatch h) dX3_conflict_8
set_option maxHeartbeats 4000000 in
set_option maxRecDepth 100000 in
theorem m_X3_core (l : Launch) (G : va_G) (cI : ClassId) (x xp ap pn xb as ar am bn xm al ak : Nat) (pf bs br mt lv ks : Nat → Int32) (hp : pn ≤ 12) (hn : bn ≤ 10) (hM : ∀ t, t < 2 ^ bn → mt t = bv_wi bs t bn) : Met l yX3_core wsX3_core ({ frames := 5, cells := 0, slots := 0, locals := 107 }) (bv_P [.ref x] G cI (fun H => va_P G vwCl [(x, .inr (3, [.ref xp, .ref xb, .ref xm])), (xp, .inr (2, [.ref ap, .int (nI pn)])), (ap, .inl (cI, 12, .inl pf)), (xb, .inr (0, [.ref as, .ref ar, .ref am, .int (nI bn)])), (as, .inl (cI, 10, .inl bs)), (ar, .inl (cI, 10, .inl br)), (am, .inl (cI, 1024, .inl mt)), (xm, .inr (1, [.ref al, .ref ak])), (al, .inl (cI, 16, .inl lv)), (ak, .inl (cI, 16, .inl ks))] H)) (vp_Si (fun r9 : Int32 => r9 = (bv_core bs br bn))) 0 0 (fun _ => False) := by
  refine Met.ofW (cc := cX3_core) (maxL := 1) (ret := (some .int)) (by decide) rfl ?_
  intro p e s m args below meth c s₁ B hml hv
  obtain ⟨rfl, hP, hE⟩ := hv
  have hx := B.exec
  have hb := B.bytes
  have hr := B.returns
  have hts := atoms_spec (ws := wsX3_core) B.pre
  have hown : s.vm.findClass RX3 = some m.cls := findClass_of_methodNamed B.named
  have hlocks := B.notSynchronized
  have hK := hE.1
  have hw0 := hts (.fieldLink RX3 19 "BeliefReviser" "base" "LBeliefReviser$Base;") (List.mem_of_getElem? (i := 1) rfl)
  have hw1 : ∀ w ∈ u_ws RX3 TX3 3, w ∈ wsX3_core := by decide +kernel
  have hP : va_P G vwCl [(x, .inr (3, [.ref xp, .ref xb, .ref xm])), (xp, .inr (2, [.ref ap, .int (nI pn)])), (ap, .inl (cI, 12, .inl pf)), (xb, .inr (0, [.ref as, .ref ar, .ref am, .int (nI bn)])), (as, .inl (cI, 10, .inl bs)), (ar, .inl (cI, 10, .inl br)), (am, .inl (cI, 1024, .inl mt)), (xm, .inr (1, [.ref al, .ref ak])), (al, .inl (cI, 16, .inl lv)), (ak, .inl (cI, 16, .inl ks))] s.heap := hP
  have hl := lv_entry ([.ref x]) (n := 1) (Nat.le_of_ble_eq_true rfl)
  rw [lg_entry_eq]
  generalize (lg_sl ([.ref x]) ++ List.replicate (1 - (lg_sl ([.ref x])).length) Slot.unset).toArray = ls at hl ⊢
  have hl : lv_has ls 1 [(0, .ref x)] := hl
  refine lv_aload_n (pc := 0) hx hb dX3_core_0 rfl (lv_at hl 0 rfl) ?_
  refine va_get (pc := 1) (D := G) (ci := 3) (v := .ref xb) (C := RX3) (T := TX3) (N := 3) hx hb hts hw1 hown hK hP 0 rfl rfl 1 (by decide) hw0 (fun _ h9 => h9) rfl dX3_core_1 ?_
  have hPc := hP.sub (ws' := [(xb, .inr (0, [.ref as, .ref ar, .ref am, .int (nI bn)])), (as, .inl (cI, 10, .inl bs)), (ar, .inl (cI, 10, .inl br)), (am, .inl (cI, 1024, .inl mt))]) [3, 4, 5, 6] rfl
  refine bv_cSi (pc := 4) (E' := (bv_core bs br bn)) (va_runV (As := []) (rest := []) ⟨hx, hb, hml, hown, hts⟩ (m_X0_believedWorlds l G cI xb as ar am bn bs br mt hn hM) (cwV 0 hts gX3_core_X0_believedWorlds rfl rfl rfl (by decide +kernel) ⟨Nat.le_of_ble_eq_true rfl, Nat.le_of_ble_eq_true rfl⟩) (bv_pV hE hPc (va_recv hK hP (ci := 0) (q0 := 3) rfl rfl)) rfl rfl hl.1 rfl (lv_room (Nat.le_of_ble_eq_true rfl)) dX3_core_4 ⟨Nat.le_of_ble_eq_true rfl, Nat.le_of_ble_eq_true rfl⟩) rfl ?_
  exact W.iret (pc := 7) (v := (bv_core bs br bn)) hx hb hr (fun T8 hT8 hW8 => ⟨(bv_core bs br bn), rfl, rfl, hT8⟩) (fun _ h => nomatch h) dX3_core_7
