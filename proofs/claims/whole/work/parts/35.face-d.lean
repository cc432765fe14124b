set_option maxHeartbeats 4000000 in
set_option maxRecDepth 100000 in
theorem m_X3_load (l : Launch) (G : va_G) (cI : ClassId) (sz : Nat) (x xp ap pn xb as ar am bn xm al ak : Nat) (pf bs br mt lv ks : Nat → Int32) (hp : pn ≤ 12) (hn : bn ≤ 10) (hM : ∀ t, t < 2 ^ bn → mt t = bv_wi bs t bn) : Met l yX3_load wsX3_load ({ frames := 4, cells := 0, slots := 0, locals := 87 }) (bv_P [.ref x] G cI (fun H => H.size = sz ∧ va_P G vwCl [(x, .inr (3, [.ref xp, .ref xb, .ref xm])), (xp, .inr (2, [.ref ap, .int (nI pn)])), (ap, .inl (cI, 12, .inl pf)), (xb, .inr (0, [.ref as, .ref ar, .ref am, .int (nI bn)])), (as, .inl (cI, 10, .inl bs)), (ar, .inl (cI, 10, .inl br)), (am, .inl (cI, 1024, .inl mt)), (xm, .inr (1, [.ref al, .ref ak])), (al, .inl (cI, 16, .inl lv)), (ak, .inl (cI, 16, .inl ks))] H ∧ va_D (fun _ => True) [(x, .inr (3, [.ref xp, .ref xb, .ref xm])), (xp, .inr (2, [.ref ap, .int (nI pn)])), (ap, .inl (cI, 12, .inl pf)), (xb, .inr (0, [.ref as, .ref ar, .ref am, .int (nI bn)])), (as, .inl (cI, 10, .inl bs)), (ar, .inl (cI, 10, .inl br)), (am, .inl (cI, 1024, .inl mt)), (xm, .inr (1, [.ref al, .ref ak])), (al, .inl (cI, 16, .inl lv)), (ak, .inl (cI, 16, .inl ks))])) (va_Qi (fun (r9 : Int32) (_ : Unit) => r9 = (bv_open (bv_loaded bs br bn lv))) (fun (_ : Unit) (T9 : State) => va_P G vwCl [(x, .inr (3, [.ref xp, .ref xb, .ref xm])), (xp, .inr (2, [.ref ap, .int (nI pn)])), (ap, .inl (cI, 12, .inl pf)), (xb, .inr (0, [.ref as, .ref ar, .ref am, .int (nI bn)])), (as, .inl (cI, 10, .inl bs)), (ar, .inl (cI, 10, .inl br)), (am, .inl (cI, 1024, .inl mt)), (xm, .inr (1, [.ref al, .ref ak])), (al, .inl (cI, 16, .inl (bv_loaded bs br bn lv))), (ak, .inl (cI, 16, .inl ks))] T9.heap) (va_A [(x, .inr (3, [.ref xp, .ref xb, .ref xm])), (xp, .inr (2, [.ref ap, .int (nI pn)])), (ap, .inl (cI, 12, .inl pf)), (xb, .inr (0, [.ref as, .ref ar, .ref am, .int (nI bn)])), (as, .inl (cI, 10, .inl bs)), (ar, .inl (cI, 10, .inl br)), (am, .inl (cI, 1024, .inl mt)), (xm, .inr (1, [.ref al, .ref ak])), (al, .inl (cI, 16, .inl lv)), (ak, .inl (cI, 16, .inl ks))] sz)) 0 0 (va_A [(x, .inr (3, [.ref xp, .ref xb, .ref xm])), (xp, .inr (2, [.ref ap, .int (nI pn)])), (ap, .inl (cI, 12, .inl pf)), (xb, .inr (0, [.ref as, .ref ar, .ref am, .int (nI bn)])), (as, .inl (cI, 10, .inl bs)), (ar, .inl (cI, 10, .inl br)), (am, .inl (cI, 1024, .inl mt)), (xm, .inr (1, [.ref al, .ref ak])), (al, .inl (cI, 16, .inl lv)), (ak, .inl (cI, 16, .inl ks))] sz) := by
  refine Met.ofW (cc := cX3_load) (maxL := 1) (ret := (some .int)) (by decide) rfl ?_
  intro p e s m args below meth c s₁ B hml hv
  obtain ⟨rfl, ⟨hsz, hP, hD0⟩, hE⟩ := hv
  have hx := B.exec
  have hb := B.bytes
  have hr := B.returns
  have hts := atoms_spec (ws := wsX3_load) B.pre
  have hown : s.vm.findClass RX3 = some m.cls := findClass_of_methodNamed B.named
  have hlocks := B.notSynchronized
  have hK := hE.1
  have hw0 := hts (.fieldLink RX3 26 "BeliefReviser" "mind" "LBeliefReviser$Mind;") (List.mem_of_getElem? (i := 1) rfl)
  have hw1 : ∀ w ∈ u_ws RX3 TX3 3, w ∈ wsX3_load := by decide +kernel
  have hw2 := hts (.fieldLink RX3 19 "BeliefReviser" "base" "LBeliefReviser$Base;") (List.mem_of_getElem? (i := 2) rfl)
  subst hsz
  have hD := hD0.self (sz := s.heap.size)
  generalize hAe : va_A [(x, .inr (3, [.ref xp, .ref xb, .ref xm])), (xp, .inr (2, [.ref ap, .int (nI pn)])), (ap, .inl (cI, 12, .inl pf)), (xb, .inr (0, [.ref as, .ref ar, .ref am, .int (nI bn)])), (as, .inl (cI, 10, .inl bs)), (ar, .inl (cI, 10, .inl br)), (am, .inl (cI, 1024, .inl mt)), (xm, .inr (1, [.ref al, .ref ak])), (al, .inl (cI, 16, .inl lv)), (ak, .inl (cI, 16, .inl ks))] s.heap.size = A at hD ⊢
  have hA : ∀ q : Nat, s.heap.size ≤ q → A q := fun q h => by rw [← hAe]; exact Or.inr h
  have hS : va_S A s.heap s.heap [] := va_S.rf
  have hP : va_P G vwCl [(x, .inr (3, [.ref xp, .ref xb, .ref xm])), (xp, .inr (2, [.ref ap, .int (nI pn)])), (ap, .inl (cI, 12, .inl pf)), (xb, .inr (0, [.ref as, .ref ar, .ref am, .int (nI bn)])), (as, .inl (cI, 10, .inl bs)), (ar, .inl (cI, 10, .inl br)), (am, .inl (cI, 1024, .inl mt)), (xm, .inr (1, [.ref al, .ref ak])), (al, .inl (cI, 16, .inl lv)), (ak, .inl (cI, 16, .inl ks))] s.heap := hP
  have hl := lv_entry ([.ref x]) (n := 1) (Nat.le_of_ble_eq_true rfl)
  rw [lg_entry_eq]
  generalize (lg_sl ([.ref x]) ++ List.replicate (1 - (lg_sl ([.ref x])).length) Slot.unset).toArray = ls at hl ⊢
  have hl : lv_has ls 1 [(0, .ref x)] := hl
  refine lv_aload_n (pc := 0) hx hb dX3_load_0 rfl (lv_at hl 0 rfl) ?_
  refine va_get (pc := 1) (D := G) (ci := 3) (v := .ref xm) (C := RX3) (T := TX3) (N := 3) hx hb hts hw1 hown hK hP 0 rfl rfl 2 (by decide) hw0 (fun _ h9 => h9) rfl dX3_load_1 ?_
  refine lv_aload_n (pc := 4) hx hb dX3_load_4 rfl (lv_at hl 0 rfl) ?_
  refine va_get (pc := 5) (D := G) (ci := 3) (v := .ref xb) (C := RX3) (T := TX3) (N := 3) hx hb hts hw1 hown hK hP 0 rfl rfl 1 (by decide) hw2 (fun _ h9 => h9) rfl dX3_load_5 ?_
  have hPc := hP.sub (ws' := [(xm, .inr (1, [.ref al, .ref ak])), (al, .inl (cI, 16, .inl lv)), (ak, .inl (cI, 16, .inl ks)), (xb, .inr (0, [.ref as, .ref ar, .ref am, .int (nI bn)])), (as, .inl (cI, 10, .inl bs)), (ar, .inl (cI, 10, .inl br)), (am, .inl (cI, 1024, .inl mt))]) [7, 8, 9, 3, 4, 5, 6] rfl
  have hDc := hD.sub (ws' := [(xm, .inr (1, [.ref al, .ref ak])), (al, .inl (cI, 16, .inl lv)), (ak, .inl (cI, 16, .inl ks)), (xb, .inr (0, [.ref as, .ref ar, .ref am, .int (nI bn)])), (as, .inl (cI, 10, .inl bs)), (ar, .inl (cI, 10, .inl br)), (am, .inl (cI, 1024, .inl mt))]) [7, 8, 9, 3, 4, 5, 6] (by decide) rfl
  have hFc := va_free (wc := [(xm, .inr (1, [.ref al, .ref ak])), (al, .inl (cI, 16, .inl lv)), (ak, .inl (cI, 16, .inl ks)), (xb, .inr (0, [.ref as, .ref ar, .ref am, .int (nI bn)])), (as, .inl (cI, 10, .inl bs)), (ar, .inl (cI, 10, .inl br)), (am, .inl (cI, 1024, .inl mt))]) hD hS hA [7, 8, 9, 3, 4, 5, 6] rfl
  refine va_callv (pc := 8) (va_runV (As := [.ref xb]) (rest := []) ⟨hx, hb, hml, hown, hts⟩ (m_X1_loadFrom l G cI s.heap.size xm al ak lv ks xb as ar am bn bs br mt hn) (cwV 1 hts gX3_load_X1_loadFrom rfl rfl rfl (by decide +kernel) ⟨Nat.le_of_ble_eq_true rfl, Nat.le_of_ble_eq_true rfl⟩) (bv_pV hE ⟨rfl, hPc, hDc.weaken (fun _ _ _ _ => trivial)⟩ (va_recv hK hP (ci := 1) (q0 := 7) rfl rfl)) rfl rfl hl.1 rfl (lv_room (Nat.le_of_ble_eq_true rfl)) dX3_load_8 ⟨Nat.le_of_ble_eq_true rfl, Nat.le_of_ble_eq_true rfl⟩) hS (fun q _ h => hFc q h) hFc (fun u8 t8 H1 locs ht8 hvm8 e_2 hB8 hz1 hk1 hS => ?_)
  have hP1 : va_P G vwCl [(xm, .inr (1, [.ref al, .ref ak])), (al, .inl (cI, 16, .inl (bv_loaded bs br bn lv))), (ak, .inl (cI, 16, .inl ks)), (xb, .inr (0, [.ref as, .ref ar, .ref am, .int (nI bn)])), (as, .inl (cI, 10, .inl bs)), (ar, .inl (cI, 10, .inl br)), (am, .inl (cI, 1024, .inl mt))] H1 := by rw [← ht8]; exact hB8
  obtain ⟨hP, hD⟩ := va_join (wr := [(x, .inr (3, [.ref xp, .ref xb, .ref xm])), (xp, .inr (2, [.ref ap, .int (nI pn)])), (ap, .inl (cI, 12, .inl pf))]) (w1 := [(xm, .inr (1, [.ref al, .ref ak])), (al, .inl (cI, 16, .inl (bv_loaded bs br bn lv))), (ak, .inl (cI, 16, .inl ks)), (xb, .inr (0, [.ref as, .ref ar, .ref am, .int (nI bn)])), (as, .inl (cI, 10, .inl bs)), (ar, .inl (cI, 10, .inl br)), (am, .inl (cI, 1024, .inl mt))]) hP hD [7, 8, 9, 3, 4, 5, 6] [0, 1, 2] rfl rfl (by decide) (by decide) hk1 hFc hP1 (bv_Dm (w0 := [(xm, .inr (1, [.ref al, .ref ak])), (al, .inl (cI, 16, .inl lv)), (ak, .inl (cI, 16, .inl ks)), (xb, .inr (0, [.ref as, .ref ar, .ref am, .int (nI bn)])), (as, .inl (cI, 10, .inl bs)), (ar, .inl (cI, 10, .inl br)), (am, .inl (cI, 1024, .inl mt))]) [xm, al, ak, xb, as, ar, am] rfl rfl hDc.self)
  have hP : va_P G vwCl [(x, .inr (3, [.ref xp, .ref xb, .ref xm])), (xp, .inr (2, [.ref ap, .int (nI pn)])), (ap, .inl (cI, 12, .inl pf)), (xb, .inr (0, [.ref as, .ref ar, .ref am, .int (nI bn)])), (as, .inl (cI, 10, .inl bs)), (ar, .inl (cI, 10, .inl br)), (am, .inl (cI, 1024, .inl mt)), (xm, .inr (1, [.ref al, .ref ak])), (al, .inl (cI, 16, .inl (bv_loaded bs br bn lv))), (ak, .inl (cI, 16, .inl ks))] H1 := hP.sub (ws' := [(x, .inr (3, [.ref xp, .ref xb, .ref xm])), (xp, .inr (2, [.ref ap, .int (nI pn)])), (ap, .inl (cI, 12, .inl pf)), (xb, .inr (0, [.ref as, .ref ar, .ref am, .int (nI bn)])), (as, .inl (cI, 10, .inl bs)), (ar, .inl (cI, 10, .inl br)), (am, .inl (cI, 1024, .inl mt)), (xm, .inr (1, [.ref al, .ref ak])), (al, .inl (cI, 16, .inl (bv_loaded bs br bn lv))), (ak, .inl (cI, 16, .inl ks))]) [0, 1, 2, 6, 7, 8, 9, 3, 4, 5] rfl
  have hD : va_D A [(x, .inr (3, [.ref xp, .ref xb, .ref xm])), (xp, .inr (2, [.ref ap, .int (nI pn)])), (ap, .inl (cI, 12, .inl pf)), (xb, .inr (0, [.ref as, .ref ar, .ref am, .int (nI bn)])), (as, .inl (cI, 10, .inl bs)), (ar, .inl (cI, 10, .inl br)), (am, .inl (cI, 1024, .inl mt)), (xm, .inr (1, [.ref al, .ref ak])), (al, .inl (cI, 16, .inl (bv_loaded bs br bn lv))), (ak, .inl (cI, 16, .inl ks))] := hD.sub (ws' := [(x, .inr (3, [.ref xp, .ref xb, .ref xm])), (xp, .inr (2, [.ref ap, .int (nI pn)])), (ap, .inl (cI, 12, .inl pf)), (xb, .inr (0, [.ref as, .ref ar, .ref am, .int (nI bn)])), (as, .inl (cI, 10, .inl bs)), (ar, .inl (cI, 10, .inl br)), (am, .inl (cI, 1024, .inl mt)), (xm, .inr (1, [.ref al, .ref ak])), (al, .inl (cI, 16, .inl (bv_loaded bs br bn lv))), (ak, .inl (cI, 16, .inl ks))]) [0, 1, 2, 6, 7, 8, 9, 3, 4, 5] (by decide) rfl
  generalize H1 = H at hP hS ⊢
  refine lv_aload_n (pc := 11) hx hb dX3_load_11 rfl (lv_at hl 0 rfl) ?_
  refine va_get (pc := 12) (D := G) (ci := 3) (v := .ref xm) (C := RX3) (T := TX3) (N := 3) hx hb hts hw1 hown hK hP 0 rfl rfl 2 (by decide) hw0 (fun _ h9 => h9) rfl dX3_load_12 ?_
  have hPc := hP.sub (ws' := [(xm, .inr (1, [.ref al, .ref ak])), (al, .inl (cI, 16, .inl (bv_loaded bs br bn lv))), (ak, .inl (cI, 16, .inl ks))]) [7, 8, 9] rfl
  refine bv_cSi (pc := 15) (E' := (bv_open (bv_loaded bs br bn lv))) (va_runV (As := []) (rest := []) ⟨hx, hb, hml, hown, hts⟩ (m_X1_open l G cI xm al ak (bv_loaded bs br bn lv) ks ) (cwV 0 hts gX3_load_X1_open rfl rfl rfl (by decide +kernel) ⟨Nat.le_of_ble_eq_true rfl, Nat.le_of_ble_eq_true rfl⟩) (bv_pV hE hPc (va_recv hK hP (ci := 1) (q0 := 7) rfl rfl)) rfl rfl hl.1 rfl (lv_room (Nat.le_of_ble_eq_true rfl)) dX3_load_15 ⟨Nat.le_of_ble_eq_true rfl, Nat.le_of_ble_eq_true rfl⟩) rfl ?_
  have hP9 : va_P G vwCl [(x, .inr (3, [.ref xp, .ref xb, .ref xm])), (xp, .inr (2, [.ref ap, .int (nI pn)])), (ap, .inl (cI, 12, .inl pf)), (xb, .inr (0, [.ref as, .ref ar, .ref am, .int (nI bn)])), (as, .inl (cI, 10, .inl bs)), (ar, .inl (cI, 10, .inl br)), (am, .inl (cI, 1024, .inl mt)), (xm, .inr (1, [.ref al, .ref ak])), (al, .inl (cI, 16, .inl (bv_loaded bs br bn lv))), (ak, .inl (cI, 16, .inl ks))] H := hP
  exact W.iret (pc := 18) (v := (bv_open (bv_loaded bs br bn lv))) hx hb hr (fun T8 hT8 hW8 => ⟨⟨(bv_open (bv_loaded bs br bn lv)), (), rfl, rfl, bv_hP hT8 hP9⟩, hS.F hT8⟩) hS.2.2 dX3_load_18
theorem bv_sub0_X3_level : ∀ w ∈ (vx_atS RX3 161 "java/lang/IndexOutOfBoundsException" bv_nms).filter goodWord, w ∈ wsX3_level := by decide +kernel
set_option maxHeartbeats 4000000 in
set_option maxRecDepth 100000 in
theorem m_X3_level (l : Launch) (hst : l.stackTraces = false) (G : va_G) (cI : ClassId) (H0 : Heap) (x xp ap pn xb as ar am bn xm al ak : Nat) (pf bs br mt lv ks : Nat → Int32) (i : Int32) (hp : pn ≤ 12) (hn : bn ≤ 10) (hM : ∀ t, t < 2 ^ bn → mt t = bv_wi bs t bn) : vx_Met l yX3_level wsX3_level ({ frames := 6, cells := 1, slots := 6, locals := 90 }) (bv_PX [.ref x, .int i] G cI (fun H => H = H0 ∧ va_P G vwCl [(x, .inr (3, [.ref xp, .ref xb, .ref xm])), (xp, .inr (2, [.ref ap, .int (nI pn)])), (ap, .inl (cI, 12, .inl pf)), (xb, .inr (0, [.ref as, .ref ar, .ref am, .int (nI bn)])), (as, .inl (cI, 10, .inl bs)), (ar, .inl (cI, 10, .inl br)), (am, .inl (cI, 1024, .inl mt)), (xm, .inr (1, [.ref al, .ref ak])), (al, .inl (cI, 16, .inl lv)), (ak, .inl (cI, 16, .inl ks))] H)) (va_Qi (fun (r9 : Int32) (_ : Unit) => r9 = (lv i.toNatClampNeg) ∧ ((if ¬ (0 ≤ i ∧ i ≤ 15) then 1 else 0) = 0)) (fun _ (T9 : State) => T9.heap = H0) (fun _ => False)) (vx_X (fun _ : Unit => True) (fun (X9 : String) _ _ => (X9 = "java/lang/IndexOutOfBoundsException" ∧ (if ¬ (0 ≤ i ∧ i ≤ 15) then 1 else 0) = 1)) (fun _ => False)) 1 6 (fun _ => False) := by
  refine vx_ofW (cc := cX3_level) (maxL := 2) (ret := (some .int)) (by decide) rfl ?_
  intro p e s m args below meth c s₁ B hml htab hv
  obtain ⟨rfl, ⟨hH0, hP⟩, hE, hX⟩ := hv
  have hx := B.exec
  have hb := B.bytes
  have hr := B.returns
  have hts := atoms_spec (ws := wsX3_level) B.pre
  have hown : s.vm.findClass RX3 = some m.cls := findClass_of_methodNamed B.named
  have hlocks := B.notSynchronized
  have hK := hE.1
  have hw0 := hts (.classLink RX3 157 "java/lang/IndexOutOfBoundsException") (List.mem_of_getElem? (i := 1) rfl)
  have hw1 := hts (.initialized "java/lang/IndexOutOfBoundsException") (List.mem_of_getElem? (i := 2) rfl)
  have hw2 := hts (.fieldLink RX3 26 "BeliefReviser" "mind" "LBeliefReviser$Mind;") (List.mem_of_getElem? (i := 3) rfl)
  have hw3 : ∀ w ∈ u_ws RX3 TX3 3, w ∈ wsX3_level := by decide +kernel
  subst hH0
  have hP : va_P G vwCl [(x, .inr (3, [.ref xp, .ref xb, .ref xm])), (xp, .inr (2, [.ref ap, .int (nI pn)])), (ap, .inl (cI, 12, .inl pf)), (xb, .inr (0, [.ref as, .ref ar, .ref am, .int (nI bn)])), (as, .inl (cI, 10, .inl bs)), (ar, .inl (cI, 10, .inl br)), (am, .inl (cI, 1024, .inl mt)), (xm, .inr (1, [.ref al, .ref ak])), (al, .inl (cI, 16, .inl lv)), (ak, .inl (cI, 16, .inl ks))] s.heap := hP
  have hl := lv_entry ([.ref x, .int i]) (n := 2) (Nat.le_of_ble_eq_true rfl)
  rw [lg_entry_eq]
  generalize (lg_sl ([.ref x, .int i]) ++ List.replicate (2 - (lg_sl ([.ref x, .int i])).length) Slot.unset).toArray = ls at hl ⊢
  have hl : lv_has ls 2 [(0, .ref x), (1, .int i)] := hl
  refine lv_iload_n (pc := 0) hx hb dX3_level_0 rfl (lv_at hl 1 rfl) ?_
  refine lv_if_lt (pc := 1) (tgt := 10) hx hb dX3_level_1 (by decide) (fun c1_1 => ?_) (fun c1_1 => ?_)
  · have h1 := c1_1
    exact bv_throw hx hb hst hX hown hw0 hw1 (hX.1 (159, "the world is not 0 to 15") (List.mem_of_getElem? (i := 3) rfl)) (hX.2.1 (161, "java/lang/IndexOutOfBoundsException") (List.mem_of_getElem? (i := 0) rfl)) (fun w hw => hts w (bv_sub0_X3_level w hw)) (by decide +kernel) (by decide +kernel) (by decide +kernel) (hl.1.trans hml.symm) dX3_level_10 dX3_level_13 dX3_level_14 dX3_level_16 dX3_level_19 htab (by decide) (Nat.le_of_ble_eq_true rfl) (Nat.le_of_ble_eq_true rfl) (Nat.le_of_ble_eq_true rfl) hlocks (⟨rfl, by rw [if_pos (fun h => Int32.not_lt.mpr h.1 h1)]⟩) (by decide) (by decide)
  · have h1 := c1_1
    refine lv_iload_n (pc := 4) hx hb dX3_level_4 rfl (lv_at hl 1 rfl) ?_
    refine lv_bipush (pc := 5) (v := 16) hx hb dX3_level_5 (by decide) ?_
    refine lv_icmp_lt (pc := 7) (tgt := 20) hx hb dX3_level_7 (by decide) (fun c7_2 => ?_) (fun c7_2 => ?_)
    · have hck0 : 0 ≤ i ∧ i ≤ 15 := ⟨Int32.not_lt.mp h1, bv_lt16.mp c7_2⟩
      obtain ⟨j, hj, rfl⟩ := bv_ix2 (n := 15) (by decide) hck0.1 hck0.2
      refine lv_aload_n (pc := 20) hx hb dX3_level_20 rfl (lv_at hl 0 rfl) ?_
      refine va_get (pc := 21) (D := G) (ci := 3) (v := .ref xm) (C := RX3) (T := TX3) (N := 3) hx hb hts hw3 hown hK hP 0 rfl rfl 2 (by decide) hw2 (fun _ h9 => h9) rfl dX3_level_21 ?_
      refine lv_iload_n (pc := 24) hx hb dX3_level_24 rfl (lv_at hl 1 rfl) ?_
      have hPc := hP.sub (ws' := [(xm, .inr (1, [.ref al, .ref ak])), (al, .inl (cI, 16, .inl lv)), (ak, .inl (cI, 16, .inl ks))]) [7, 8, 9] rfl
      refine bv_cSi (pc := 25) (E' := (lv j)) (va_runV (As := [.int (nI j)]) (rest := []) ⟨hx, hb, hml, hown, hts⟩ (m_X1_levelOf l G cI xm al ak lv ks j (by omega)) (cwV 1 hts gX3_level_X1_levelOf rfl rfl rfl (by decide +kernel) ⟨Nat.le_of_ble_eq_true rfl, Nat.le_of_ble_eq_true rfl⟩) (bv_pV hE hPc (va_recv hK hP (ci := 1) (q0 := 7) rfl rfl)) rfl rfl hl.1 rfl (lv_room (Nat.le_of_ble_eq_true rfl)) dX3_level_25 ⟨Nat.le_of_ble_eq_true rfl, Nat.le_of_ble_eq_true rfl⟩) rfl ?_
      refine vx_ret ?_
      refine W.widen (k := 1) (n := 6) (by decide) (by decide) ?_
      exact W.iret (pc := 28) (v := (lv j)) hx hb hr (fun T8 hT8 hW8 => ⟨⟨(lv j), (), rfl, ⟨(by rw [nI_clamp (by omega)]), (by rw [if_neg (not_not_intro hck0)])⟩, hT8⟩, (va_S.rf (A := fun _ => False)).F hT8⟩) (fun _ h => nomatch h) dX3_level_28
    · have h2 := c7_2
      exact bv_throw hx hb hst hX hown hw0 hw1 (hX.1 (159, "the world is not 0 to 15") (List.mem_of_getElem? (i := 3) rfl)) (hX.2.1 (161, "java/lang/IndexOutOfBoundsException") (List.mem_of_getElem? (i := 0) rfl)) (fun w hw => hts w (bv_sub0_X3_level w hw)) (by decide +kernel) (by decide +kernel) (by decide +kernel) (hl.1.trans hml.symm) dX3_level_10 dX3_level_13 dX3_level_14 dX3_level_16 dX3_level_19 htab (by decide) (Nat.le_of_ble_eq_true rfl) (Nat.le_of_ble_eq_true rfl) (Nat.le_of_ble_eq_true rfl) hlocks (⟨rfl, by rw [if_pos (fun h => h2 (bv_lt16.mpr h.2))]⟩) (by decide) (by decide)
set_option maxHeartbeats 4000000 in
set_option maxRecDepth 100000 in
theorem m_X3_possible (l : Launch) (G : va_G) (cI : ClassId) (x xp ap pn xb as ar am bn xm al ak : Nat) (pf bs br mt lv ks : Nat → Int32) (hp : pn ≤ 12) (hn : bn ≤ 10) (hM : ∀ t, t < 2 ^ bn → mt t = bv_wi bs t bn) : Met l yX3_possible wsX3_possible ({ frames := 3, cells := 0, slots := 0, locals := 65 }) (bv_P [.ref x] G cI (fun H => va_P G vwCl [(x, .inr (3, [.ref xp, .ref xb, .ref xm])), (xp, .inr (2, [.ref ap, .int (nI pn)])), (ap, .inl (cI, 12, .inl pf)), (xb, .inr (0, [.ref as, .ref ar, .ref am, .int (nI bn)])), (as, .inl (cI, 10, .inl bs)), (ar, .inl (cI, 10, .inl br)), (am, .inl (cI, 1024, .inl mt)), (xm, .inr (1, [.ref al, .ref ak])), (al, .inl (cI, 16, .inl lv)), (ak, .inl (cI, 16, .inl ks))] H)) (vp_Si (fun r9 : Int32 => r9 = (bv_open lv))) 0 0 (fun _ => False) := by
  refine Met.ofW (cc := cX3_possible) (maxL := 1) (ret := (some .int)) (by decide) rfl ?_
  intro p e s m args below meth c s₁ B hml hv
  obtain ⟨rfl, hP, hE⟩ := hv
  have hx := B.exec
  have hb := B.bytes
  have hr := B.returns
  have hts := atoms_spec (ws := wsX3_possible) B.pre
  have hown : s.vm.findClass RX3 = some m.cls := findClass_of_methodNamed B.named
  have hlocks := B.notSynchronized
  have hK := hE.1
  have hw0 := hts (.fieldLink RX3 26 "BeliefReviser" "mind" "LBeliefReviser$Mind;") (List.mem_of_getElem? (i := 1) rfl)
  have hw1 : ∀ w ∈ u_ws RX3 TX3 3, w ∈ wsX3_possible := by decide +kernel
  have hP : va_P G vwCl [(x, .inr (3, [.ref xp, .ref xb, .ref xm])), (xp, .inr (2, [.ref ap, .int (nI pn)])), (ap, .inl (cI, 12, .inl pf)), (xb, .inr (0, [.ref as, .ref ar, .ref am, .int (nI bn)])), (as, .inl (cI, 10, .inl bs)), (ar, .inl (cI, 10, .inl br)), (am, .inl (cI, 1024, .inl mt)), (xm, .inr (1, [.ref al, .ref ak])), (al, .inl (cI, 16, .inl lv)), (ak, .inl (cI, 16, .inl ks))] s.heap := hP
  have hl := lv_entry ([.ref x]) (n := 1) (Nat.le_of_ble_eq_true rfl)
  rw [lg_entry_eq]
  generalize (lg_sl ([.ref x]) ++ List.replicate (1 - (lg_sl ([.ref x])).length) Slot.unset).toArray = ls at hl ⊢
  have hl : lv_has ls 1 [(0, .ref x)] := hl
  refine lv_aload_n (pc := 0) hx hb dX3_possible_0 rfl (lv_at hl 0 rfl) ?_
  refine va_get (pc := 1) (D := G) (ci := 3) (v := .ref xm) (C := RX3) (T := TX3) (N := 3) hx hb hts hw1 hown hK hP 0 rfl rfl 2 (by decide) hw0 (fun _ h9 => h9) rfl dX3_possible_1 ?_
  have hPc := hP.sub (ws' := [(xm, .inr (1, [.ref al, .ref ak])), (al, .inl (cI, 16, .inl lv)), (ak, .inl (cI, 16, .inl ks))]) [7, 8, 9] rfl
  refine bv_cSi (pc := 4) (E' := (bv_open lv)) (va_runV (As := []) (rest := []) ⟨hx, hb, hml, hown, hts⟩ (m_X1_open l G cI xm al ak lv ks ) (cwV 0 hts gX3_possible_X1_open rfl rfl rfl (by decide +kernel) ⟨Nat.le_of_ble_eq_true rfl, Nat.le_of_ble_eq_true rfl⟩) (bv_pV hE hPc (va_recv hK hP (ci := 1) (q0 := 7) rfl rfl)) rfl rfl hl.1 rfl (lv_room (Nat.le_of_ble_eq_true rfl)) dX3_possible_4 ⟨Nat.le_of_ble_eq_true rfl, Nat.le_of_ble_eq_true rfl⟩) rfl ?_
  exact W.iret (pc := 7) (v := (bv_open lv)) hx hb hr (fun T8 hT8 hW8 => ⟨(bv_open lv), rfl, rfl, hT8⟩) (fun _ h => nomatch h) dX3_possible_7
set_option maxHeartbeats 4000000 in
set_option maxRecDepth 100000 in
theorem m_X3_firmness (l : Launch) (hst : l.stackTraces = false) (G : va_G) (cI : ClassId) (H0 : Heap) (x xp ap pn xb as ar am bn xm al ak : Nat) (pf bs br mt lv ks : Nat → Int32) (hp : pn ≤ 12) (hn : bn ≤ 10) (hM : ∀ t, t < 2 ^ bn → mt t = bv_wi bs t bn) : vx_Met l yX3_firmness wsX3_firmness ({ frames := 7, cells := 1, slots := 6, locals := 110 }) (bv_PX [.ref x] G cI (fun H => H = H0 ∧ va_P G vwCl [(x, .inr (3, [.ref xp, .ref xb, .ref xm])), (xp, .inr (2, [.ref ap, .int (nI pn)])), (ap, .inl (cI, 12, .inl pf)), (xb, .inr (0, [.ref as, .ref ar, .ref am, .int (nI bn)])), (as, .inl (cI, 10, .inl bs)), (ar, .inl (cI, 10, .inl br)), (am, .inl (cI, 1024, .inl mt)), (xm, .inr (1, [.ref al, .ref ak])), (al, .inl (cI, 16, .inl lv)), (ak, .inl (cI, 16, .inl ks))] H)) (va_Qi (fun (r9 : Int32) (_ : Unit) => r9 = (bv_ll lv (bv_not (pf (pn - 1))) 16) ∧ ((if ¬ (1 ≤ pn) then 1 else 0) = 0)) (fun _ (T9 : State) => T9.heap = H0) (fun _ => False)) (vx_X (fun _ : Unit => True) (fun (X9 : String) _ _ => (X9 = "java/lang/IllegalStateException" ∧ (if ¬ (1 ≤ pn) then 1 else 0) = 1)) (fun _ => False)) 1 6 (fun _ => False) := by
  refine vx_ofW (cc := cX3_firmness) (maxL := 1) (ret := (some .int)) (by decide) rfl ?_
  intro p e s m args below meth c s₁ B hml htab hv
  obtain ⟨rfl, ⟨hH0, hP⟩, hE, hX⟩ := hv
  have hx := B.exec
  have hb := B.bytes
  have hr := B.returns
  have hts := atoms_spec (ws := wsX3_firmness) B.pre
  have hown : s.vm.findClass RX3 = some m.cls := findClass_of_methodNamed B.named
  have hlocks := B.notSynchronized
  have hK := hE.1
  have hw0 := hts (.fieldLink RX3 26 "BeliefReviser" "mind" "LBeliefReviser$Mind;") (List.mem_of_getElem? (i := 1) rfl)
  have hw1 : ∀ w ∈ u_ws RX3 TX3 3, w ∈ wsX3_firmness := by decide +kernel
  have hw2 := hts (.static yX3_not) (List.mem_of_getElem? (i := 24) rfl)
  subst hH0
  have hP : va_P G vwCl [(x, .inr (3, [.ref xp, .ref xb, .ref xm])), (xp, .inr (2, [.ref ap, .int (nI pn)])), (ap, .inl (cI, 12, .inl pf)), (xb, .inr (0, [.ref as, .ref ar, .ref am, .int (nI bn)])), (as, .inl (cI, 10, .inl bs)), (ar, .inl (cI, 10, .inl br)), (am, .inl (cI, 1024, .inl mt)), (xm, .inr (1, [.ref al, .ref ak])), (al, .inl (cI, 16, .inl lv)), (ak, .inl (cI, 16, .inl ks))] s.heap := hP
  have hl := lv_entry ([.ref x]) (n := 1) (Nat.le_of_ble_eq_true rfl)
  rw [lg_entry_eq]
  generalize (lg_sl ([.ref x]) ++ List.replicate (1 - (lg_sl ([.ref x])).length) Slot.unset).toArray = ls at hl ⊢
  have hl : lv_has ls 1 [(0, .ref x)] := hl
  refine lv_aload_n (pc := 0) hx hb dX3_firmness_0 rfl (lv_at hl 0 rfl) ?_
  refine va_get (pc := 1) (D := G) (ci := 3) (v := .ref xm) (C := RX3) (T := TX3) (N := 3) hx hb hts hw1 hown hK hP 0 rfl rfl 2 (by decide) hw0 (fun _ h9 => h9) rfl dX3_firmness_1 ?_
  refine lv_aload_n (pc := 4) hx hb dX3_firmness_4 rfl (lv_at hl 0 rfl) ?_
  have hPc := hP.sub (ws' := [(x, .inr (3, [.ref xp, .ref xb, .ref xm])), (xp, .inr (2, [.ref ap, .int (nI pn)])), (ap, .inl (cI, 12, .inl pf)), (xb, .inr (0, [.ref as, .ref ar, .ref am, .int (nI bn)])), (as, .inl (cI, 10, .inl bs)), (ar, .inl (cI, 10, .inl br)), (am, .inl (cI, 1024, .inl mt)), (xm, .inr (1, [.ref al, .ref ak])), (al, .inl (cI, 16, .inl lv)), (ak, .inl (cI, 16, .inl ks))]) [0, 1, 2, 3, 4, 5, 6, 7, 8, 9] rfl
  refine bv_cXi (pc := 5) (E' := (pf (pn - 1))) (vx_runV (As := []) (rest := [.ref xm]) ⟨hx, hb, hml, hown, hts⟩ (m_X3_requireTop l hst G cI s.heap x xp ap pn xb as ar am bn xm al ak pf bs br mt lv ks hp) (cwV 0 hts gX3_firmness_X3_requireTop rfl rfl rfl (by decide +kernel) ⟨Nat.le_of_ble_eq_true rfl, Nat.le_of_ble_eq_true rfl⟩) (bv_pVX hE hX ⟨rfl, hPc⟩ (va_recv hK hP (ci := 3) (q0 := 0) rfl rfl)) rfl rfl hl.1 rfl (lv_room (Nat.le_of_ble_eq_true rfl)) dX3_firmness_5 ⟨Nat.le_of_ble_eq_true rfl, Nat.le_of_ble_eq_true rfl⟩) htab hlocks (fun X h => ⟨h.1, by rw [if_pos (h.2)]⟩) (by decide) (by decide) rfl (fun hck0 => ?_)
  have hPc := hP.sub (ws' := []) [] rfl
  refine bv_cSi (pc := 8) (E' := (bv_not (pf (pn - 1)))) (va_runS (As := [.int (pf (pn - 1))]) (rest := [.ref xm]) ⟨hx, hb, hml, hown, hts⟩ (m_X3_not l G cI (pf (pn - 1)) ) (va_cwS 1 hts gX3_firmness_X3_not rfl rfl rfl (by decide +kernel) ⟨Nat.le_of_ble_eq_true rfl, Nat.le_of_ble_eq_true rfl⟩) (bv_pS hE hPc) rfl rfl hl.1 rfl (lv_room (Nat.le_of_ble_eq_true rfl)) dX3_firmness_8 ⟨Nat.le_of_ble_eq_true rfl, Nat.le_of_ble_eq_true rfl⟩) rfl ?_
  have hPc := hP.sub (ws' := [(xm, .inr (1, [.ref al, .ref ak])), (al, .inl (cI, 16, .inl lv)), (ak, .inl (cI, 16, .inl ks))]) [7, 8, 9] rfl
  refine bv_cSi (pc := 11) (E' := (bv_ll lv (bv_not (pf (pn - 1))) 16)) (va_runV (As := [.int (bv_not (pf (pn - 1)))]) (rest := []) ⟨hx, hb, hml, hown, hts⟩ (m_X1_leastLevel l G cI xm al ak lv ks (bv_not (pf (pn - 1))) ) (cwV 1 hts gX3_firmness_X1_leastLevel rfl rfl rfl (by decide +kernel) ⟨Nat.le_of_ble_eq_true rfl, Nat.le_of_ble_eq_true rfl⟩) (bv_pV hE hPc (va_recv hK hP (ci := 1) (q0 := 7) rfl rfl)) rfl rfl hl.1 rfl (lv_room (Nat.le_of_ble_eq_true rfl)) dX3_firmness_11 ⟨Nat.le_of_ble_eq_true rfl, Nat.le_of_ble_eq_true rfl⟩) rfl ?_
  refine vx_ret ?_
  refine W.widen (k := 1) (n := 6) (by decide) (by decide) ?_
  exact W.iret (pc := 14) (v := (bv_ll lv (bv_not (pf (pn - 1))) 16)) hx hb hr (fun T8 hT8 hW8 => ⟨⟨(bv_ll lv (bv_not (pf (pn - 1))) 16), (), rfl, ⟨rfl, (by rw [if_neg (not_not_intro hck0)])⟩, hT8⟩, (va_S.rf (A := fun _ => False)).F hT8⟩) (fun _ h => nomatch h) dX3_firmness_14
set_option maxHeartbeats 4000000 in
set_option maxRecDepth 100000 in
theorem m_X3_layers (l : Launch) (G : va_G) (cI : ClassId) (x xp ap pn xb as ar am bn xm al ak : Nat) (pf bs br mt lv ks : Nat → Int32) (hp : pn ≤ 12) (hn : bn ≤ 10) (hM : ∀ t, t < 2 ^ bn → mt t = bv_wi bs t bn) : Met l yX3_layers wsX3_layers ({ frames := 4, cells := 0, slots := 0, locals := 86 }) (bv_P [.ref x] G cI (fun H => va_P G vwCl [(x, .inr (3, [.ref xp, .ref xb, .ref xm])), (xp, .inr (2, [.ref ap, .int (nI pn)])), (ap, .inl (cI, 12, .inl pf)), (xb, .inr (0, [.ref as, .ref ar, .ref am, .int (nI bn)])), (as, .inl (cI, 10, .inl bs)), (ar, .inl (cI, 10, .inl br)), (am, .inl (cI, 1024, .inl mt)), (xm, .inr (1, [.ref al, .ref ak])), (al, .inl (cI, 16, .inl lv)), (ak, .inl (cI, 16, .inl ks))] H)) (vp_Si (fun r9 : Int32 => r9 = (nI (bv_cd lv (bv_gl lv 16 + 1) 16)))) 0 0 (fun _ => False) := by
  refine Met.ofW (cc := cX3_layers) (maxL := 1) (ret := (some .int)) (by decide) rfl ?_
  intro p e s m args below meth c s₁ B hml hv
  obtain ⟨rfl, hP, hE⟩ := hv
  have hx := B.exec
  have hb := B.bytes
  have hr := B.returns
  have hts := atoms_spec (ws := wsX3_layers) B.pre
  have hown : s.vm.findClass RX3 = some m.cls := findClass_of_methodNamed B.named
  have hlocks := B.notSynchronized
  have hK := hE.1
  have hw0 := hts (.fieldLink RX3 26 "BeliefReviser" "mind" "LBeliefReviser$Mind;") (List.mem_of_getElem? (i := 1) rfl)
  have hw1 : ∀ w ∈ u_ws RX3 TX3 3, w ∈ wsX3_layers := by decide +kernel
  have hP : va_P G vwCl [(x, .inr (3, [.ref xp, .ref xb, .ref xm])), (xp, .inr (2, [.ref ap, .int (nI pn)])), (ap, .inl (cI, 12, .inl pf)), (xb, .inr (0, [.ref as, .ref ar, .ref am, .int (nI bn)])), (as, .inl (cI, 10, .inl bs)), (ar, .inl (cI, 10, .inl br)), (am, .inl (cI, 1024, .inl mt)), (xm, .inr (1, [.ref al, .ref ak])), (al, .inl (cI, 16, .inl lv)), (ak, .inl (cI, 16, .inl ks))] s.heap := hP
  have hl := lv_entry ([.ref x]) (n := 1) (Nat.le_of_ble_eq_true rfl)
  rw [lg_entry_eq]
  generalize (lg_sl ([.ref x]) ++ List.replicate (1 - (lg_sl ([.ref x])).length) Slot.unset).toArray = ls at hl ⊢
  have hl : lv_has ls 1 [(0, .ref x)] := hl
  refine lv_aload_n (pc := 0) hx hb dX3_layers_0 rfl (lv_at hl 0 rfl) ?_
  refine va_get (pc := 1) (D := G) (ci := 3) (v := .ref xm) (C := RX3) (T := TX3) (N := 3) hx hb hts hw1 hown hK hP 0 rfl rfl 2 (by decide) hw0 (fun _ h9 => h9) rfl dX3_layers_1 ?_
  have hPc := hP.sub (ws' := [(xm, .inr (1, [.ref al, .ref ak])), (al, .inl (cI, 16, .inl lv)), (ak, .inl (cI, 16, .inl ks))]) [7, 8, 9] rfl
  refine bv_cSi (pc := 4) (E' := (nI (bv_cd lv (bv_gl lv 16 + 1) 16))) (va_runV (As := []) (rest := []) ⟨hx, hb, hml, hown, hts⟩ (m_X1_countLevels l G cI xm al ak lv ks ) (cwV 0 hts gX3_layers_X1_countLevels rfl rfl rfl (by decide +kernel) ⟨Nat.le_of_ble_eq_true rfl, Nat.le_of_ble_eq_true rfl⟩) (bv_pV hE hPc (va_recv hK hP (ci := 1) (q0 := 7) rfl rfl)) rfl rfl hl.1 rfl (lv_room (Nat.le_of_ble_eq_true rfl)) dX3_layers_4 ⟨Nat.le_of_ble_eq_true rfl, Nat.le_of_ble_eq_true rfl⟩) rfl ?_
  exact W.iret (pc := 7) (v := (nI (bv_cd lv (bv_gl lv 16 + 1) 16))) hx hb hr (fun T8 hT8 hW8 => ⟨(nI (bv_cd lv (bv_gl lv 16 + 1) 16)), rfl, rfl, hT8⟩) (fun _ h => nomatch h) dX3_layers_7
set_option maxHeartbeats 4000000 in
set_option maxRecDepth 100000 in
theorem m_X3_would (l : Launch) (hst : l.stackTraces = false) (G : va_G) (cI : ClassId) (H0 : Heap) (x xp ap pn xb as ar am bn xm al ak : Nat) (pf bs br mt lv ks : Nat → Int32) (hp : pn ≤ 12) (hn : bn ≤ 10) (hM : ∀ t, t < 2 ^ bn → mt t = bv_wi bs t bn) : vx_Met l yX3_would wsX3_would ({ frames := 7, cells := 1, slots := 6, locals := 110 }) (bv_PX [.ref x] G cI (fun H => H = H0 ∧ va_P G vwCl [(x, .inr (3, [.ref xp, .ref xb, .ref xm])), (xp, .inr (2, [.ref ap, .int (nI pn)])), (ap, .inl (cI, 12, .inl pf)), (xb, .inr (0, [.ref as, .ref ar, .ref am, .int (nI bn)])), (as, .inl (cI, 10, .inl bs)), (ar, .inl (cI, 10, .inl br)), (am, .inl (cI, 1024, .inl mt)), (xm, .inr (1, [.ref al, .ref ak])), (al, .inl (cI, 16, .inl lv)), (ak, .inl (cI, 16, .inl ks))] H)) (va_Qi (fun (r9 : Int32) (_ : Unit) => r9 = (bv_b (decide ((bv_mp lv (pf (pn - 2)) &&& bv_not (pf (pn - 1))) = 0))) ∧ ((if ¬ (2 ≤ pn) then 1 else 0) = 0)) (fun _ (T9 : State) => T9.heap = H0) (fun _ => False)) (vx_X (fun _ : Unit => True) (fun (X9 : String) _ _ => (X9 = "java/lang/IllegalStateException" ∧ (if ¬ (2 ≤ pn) then 1 else 0) = 1)) (fun _ => False)) 1 6 (fun _ => False) := by
  refine vx_ofW (cc := cX3_would) (maxL := 1) (ret := (some .boolean)) (by decide) rfl ?_
  intro p e s m args below meth c s₁ B hml htab hv
  obtain ⟨rfl, ⟨hH0, hP⟩, hE, hX⟩ := hv
  have hx := B.exec
  have hb := B.bytes
  have hr := B.returns
  have hts := atoms_spec (ws := wsX3_would) B.pre
  have hown : s.vm.findClass RX3 = some m.cls := findClass_of_methodNamed B.named
  have hlocks := B.notSynchronized
  have hK := hE.1
  have hw0 := hts (.fieldLink RX3 26 "BeliefReviser" "mind" "LBeliefReviser$Mind;") (List.mem_of_getElem? (i := 1) rfl)
  have hw1 : ∀ w ∈ u_ws RX3 TX3 3, w ∈ wsX3_would := by decide +kernel
  have hw2 := hts (.fieldLink RX3 12 "BeliefReviser" "pile" "LBeliefReviser$Pile;") (List.mem_of_getElem? (i := 2) rfl)
  have hw3 := hts (.static yX3_not) (List.mem_of_getElem? (i := 40) rfl)
  subst hH0
  have hP : va_P G vwCl [(x, .inr (3, [.ref xp, .ref xb, .ref xm])), (xp, .inr (2, [.ref ap, .int (nI pn)])), (ap, .inl (cI, 12, .inl pf)), (xb, .inr (0, [.ref as, .ref ar, .ref am, .int (nI bn)])), (as, .inl (cI, 10, .inl bs)), (ar, .inl (cI, 10, .inl br)), (am, .inl (cI, 1024, .inl mt)), (xm, .inr (1, [.ref al, .ref ak])), (al, .inl (cI, 16, .inl lv)), (ak, .inl (cI, 16, .inl ks))] s.heap := hP
  have hl := lv_entry ([.ref x]) (n := 1) (Nat.le_of_ble_eq_true rfl)
  rw [lg_entry_eq]
  generalize (lg_sl ([.ref x]) ++ List.replicate (1 - (lg_sl ([.ref x])).length) Slot.unset).toArray = ls at hl ⊢
  have hl : lv_has ls 1 [(0, .ref x)] := hl
  refine lv_aload_n (pc := 0) hx hb dX3_would_0 rfl (lv_at hl 0 rfl) ?_
  have hPc := hP.sub (ws' := [(x, .inr (3, [.ref xp, .ref xb, .ref xm])), (xp, .inr (2, [.ref ap, .int (nI pn)])), (ap, .inl (cI, 12, .inl pf)), (xb, .inr (0, [.ref as, .ref ar, .ref am, .int (nI bn)])), (as, .inl (cI, 10, .inl bs)), (ar, .inl (cI, 10, .inl br)), (am, .inl (cI, 1024, .inl mt)), (xm, .inr (1, [.ref al, .ref ak])), (al, .inl (cI, 16, .inl lv)), (ak, .inl (cI, 16, .inl ks))]) [0, 1, 2, 3, 4, 5, 6, 7, 8, 9] rfl
  refine bv_cXv (pc := 1) (vx_runV (As := []) (rest := []) ⟨hx, hb, hml, hown, hts⟩ (m_X3_requireTwo l hst G cI s.heap x xp ap pn xb as ar am bn xm al ak pf bs br mt lv ks hp) (cwV 0 hts gX3_would_X3_requireTwo rfl rfl rfl (by decide +kernel) ⟨Nat.le_of_ble_eq_true rfl, Nat.le_of_ble_eq_true rfl⟩) (bv_pVX hE hX ⟨rfl, hPc⟩ (va_recv hK hP (ci := 3) (q0 := 0) rfl rfl)) rfl rfl hl.1 rfl (lv_room (Nat.le_of_ble_eq_true rfl)) dX3_would_1 ⟨Nat.le_of_ble_eq_true rfl, Nat.le_of_ble_eq_true rfl⟩) htab hlocks (fun X h => ⟨h.1, by rw [if_pos (h.2)]⟩) (by decide) (by decide) (fun hck0 => ?_)
  refine lv_aload_n (pc := 4) hx hb dX3_would_4 rfl (lv_at hl 0 rfl) ?_
  refine va_get (pc := 5) (D := G) (ci := 3) (v := .ref xm) (C := RX3) (T := TX3) (N := 3) hx hb hts hw1 hown hK hP 0 rfl rfl 2 (by decide) hw0 (fun _ h9 => h9) rfl dX3_would_5 ?_
  refine lv_aload_n (pc := 8) hx hb dX3_would_8 rfl (lv_at hl 0 rfl) ?_
  refine va_get (pc := 9) (D := G) (ci := 3) (v := .ref xp) (C := RX3) (T := TX3) (N := 3) hx hb hts hw1 hown hK hP 0 rfl rfl 0 (by decide) hw2 (fun _ h9 => h9) rfl dX3_would_9 ?_
  refine lv_iconst (pc := 12) (v := 1) hx hb dX3_would_12 (by decide) ?_
  have hPc := hP.sub (ws' := [(xp, .inr (2, [.ref ap, .int (nI pn)])), (ap, .inl (cI, 12, .inl pf))]) [1, 2] rfl
  refine bv_cSi (pc := 13) (E' := (pf (pn - 2))) (va_runV (As := [.int 1]) (rest := [.ref xm]) ⟨hx, hb, hml, hown, hts⟩ (m_X2_below l G cI xp ap pn pf 1 (by omega) hp) (cwV 1 hts gX3_would_X2_below rfl rfl rfl (by decide +kernel) ⟨Nat.le_of_ble_eq_true rfl, Nat.le_of_ble_eq_true rfl⟩) (bv_pV hE hPc (va_recv hK hP (ci := 2) (q0 := 1) rfl rfl)) rfl rfl hl.1 rfl (lv_room (Nat.le_of_ble_eq_true rfl)) dX3_would_13 ⟨Nat.le_of_ble_eq_true rfl, Nat.le_of_ble_eq_true rfl⟩) (by rw [Nat.sub_sub]) ?_
  have hPc := hP.sub (ws' := [(xm, .inr (1, [.ref al, .ref ak])), (al, .inl (cI, 16, .inl lv)), (ak, .inl (cI, 16, .inl ks))]) [7, 8, 9] rfl
  refine bv_cSi (pc := 16) (E' := (bv_mp lv (pf (pn - 2)))) (va_runV (As := [.int (pf (pn - 2))]) (rest := []) ⟨hx, hb, hml, hown, hts⟩ (m_X1_mostPlausible l G cI xm al ak lv ks (pf (pn - 2)) ) (cwV 1 hts gX3_would_X1_mostPlausible rfl rfl rfl (by decide +kernel) ⟨Nat.le_of_ble_eq_true rfl, Nat.le_of_ble_eq_true rfl⟩) (bv_pV hE hPc (va_recv hK hP (ci := 1) (q0 := 7) rfl rfl)) rfl rfl hl.1 rfl (lv_room (Nat.le_of_ble_eq_true rfl)) dX3_would_16 ⟨Nat.le_of_ble_eq_true rfl, Nat.le_of_ble_eq_true rfl⟩) rfl ?_
  refine lv_aload_n (pc := 19) hx hb dX3_would_19 rfl (lv_at hl 0 rfl) ?_
  refine va_get (pc := 20) (D := G) (ci := 3) (v := .ref xp) (C := RX3) (T := TX3) (N := 3) hx hb hts hw1 hown hK hP 0 rfl rfl 0 (by decide) hw2 (fun _ h9 => h9) rfl dX3_would_20 ?_
  refine lv_iconst (pc := 23) (v := 0) hx hb dX3_would_23 (by decide) ?_
  have hPc := hP.sub (ws' := [(xp, .inr (2, [.ref ap, .int (nI pn)])), (ap, .inl (cI, 12, .inl pf))]) [1, 2] rfl
  refine bv_cSi (pc := 24) (E' := (pf (pn - 1))) (va_runV (As := [.int 0]) (rest := [.int (bv_mp lv (pf (pn - 2)))]) ⟨hx, hb, hml, hown, hts⟩ (m_X2_below l G cI xp ap pn pf 0 (by omega) hp) (cwV 1 hts gX3_would_X2_below rfl rfl rfl (by decide +kernel) ⟨Nat.le_of_ble_eq_true rfl, Nat.le_of_ble_eq_true rfl⟩) (bv_pV hE hPc (va_recv hK hP (ci := 2) (q0 := 1) rfl rfl)) rfl rfl hl.1 rfl (lv_room (Nat.le_of_ble_eq_true rfl)) dX3_would_24 ⟨Nat.le_of_ble_eq_true rfl, Nat.le_of_ble_eq_true rfl⟩) (by rw [Nat.sub_zero]) ?_
  have hPc := hP.sub (ws' := []) [] rfl
  refine bv_cSi (pc := 27) (E' := (bv_not (pf (pn - 1)))) (va_runS (As := [.int (pf (pn - 1))]) (rest := [.int (bv_mp lv (pf (pn - 2)))]) ⟨hx, hb, hml, hown, hts⟩ (m_X3_not l G cI (pf (pn - 1)) ) (va_cwS 1 hts gX3_would_X3_not rfl rfl rfl (by decide +kernel) ⟨Nat.le_of_ble_eq_true rfl, Nat.le_of_ble_eq_true rfl⟩) (bv_pS hE hPc) rfl rfl hl.1 rfl (lv_room (Nat.le_of_ble_eq_true rfl)) dX3_would_27 ⟨Nat.le_of_ble_eq_true rfl, Nat.le_of_ble_eq_true rfl⟩) rfl ?_
  refine lv_iand (pc := 30) hx hb dX3_would_30 ?_
  refine lv_if_ne (pc := 31) (tgt := 38) hx hb dX3_would_31 (by decide) (fun c31_9 => ?_) (fun c31_9 => ?_)
  · have h1 := c31_9
    refine lv_iconst (pc := 38) (v := 0) hx hb dX3_would_38 (by decide) ?_
    refine vx_ret ?_
    refine W.widen (k := 1) (n := 6) (by decide) (by decide) ?_
    exact W.zret (pc := 39) (v := 0) hx hb hr rfl (fun T8 hT8 hW8 => ⟨⟨0, (), rfl, ⟨(by rw [decide_eq_false h1]; rfl), (by rw [if_neg (not_not_intro hck0)])⟩, hT8⟩, (va_S.rf (A := fun _ => False)).F hT8⟩) (fun _ h => nomatch h) dX3_would_39
  · have h1 := c31_9
    refine lv_iconst (pc := 34) (v := 1) hx hb dX3_would_34 (by decide) ?_
    refine lv_goto (pc := 35) (tgt := 39) hx hb dX3_would_35 (by decide) ?_
    refine vx_ret ?_
    refine W.widen (k := 1) (n := 6) (by decide) (by decide) ?_
    exact W.zret (pc := 39) (v := 1) hx hb hr rfl (fun T8 hT8 hW8 => ⟨⟨1, (), rfl, ⟨(by rw [decide_eq_true h1]; rfl), (by rw [if_neg (not_not_intro hck0)])⟩, hT8⟩, (va_S.rf (A := fun _ => False)).F hT8⟩) (fun _ h => nomatch h) dX3_would_39
set_option maxHeartbeats 4000000 in
set_option maxRecDepth 100000 in
theorem m_X3_digest (l : Launch) (G : va_G) (cI : ClassId) (x xp ap pn xb as ar am bn xm al ak : Nat) (pf bs br mt lv ks : Nat → Int32) (hp : pn ≤ 12) (hn : bn ≤ 10) (hM : ∀ t, t < 2 ^ bn → mt t = bv_wi bs t bn) : Met l yX3_digest wsX3_digest ({ frames := 4, cells := 0, slots := 0, locals := 87 }) (bv_P [.ref x] G cI (fun H => va_P G vwCl [(x, .inr (3, [.ref xp, .ref xb, .ref xm])), (xp, .inr (2, [.ref ap, .int (nI pn)])), (ap, .inl (cI, 12, .inl pf)), (xb, .inr (0, [.ref as, .ref ar, .ref am, .int (nI bn)])), (as, .inl (cI, 10, .inl bs)), (ar, .inl (cI, 10, .inl br)), (am, .inl (cI, 1024, .inl mt)), (xm, .inr (1, [.ref al, .ref ak])), (al, .inl (cI, 16, .inl lv)), (ak, .inl (cI, 16, .inl ks))] H)) (vp_Sl (fun r9 : Int64 => r9 = (bv_ldig (bv_dstep (bv_bdig (bv_dstep (bv_pdig (bv_dstep 191 (nI pn)) pf pn) (nI bn)) bs br bn) (nI (bv_degn bs br bn 0))) lv 16))) 0 0 (fun _ => False) := by
  refine Met.ofW (cc := cX3_digest) (maxL := 3) (ret := (some .long)) (by decide) rfl ?_
  intro p e s m args below meth c s₁ B hml hv
  obtain ⟨rfl, hP, hE⟩ := hv
  have hx := B.exec
  have hb := B.bytes
  have hr := B.returns
  have hts := atoms_spec (ws := wsX3_digest) B.pre
  have hown : s.vm.findClass RX3 = some m.cls := findClass_of_methodNamed B.named
  have hlocks := B.notSynchronized
  have hK := hE.1
  have hw0 := hts (.fieldLink RX3 19 "BeliefReviser" "base" "LBeliefReviser$Base;") (List.mem_of_getElem? (i := 1) rfl)
  have hw1 : ∀ w ∈ u_ws RX3 TX3 3, w ∈ wsX3_digest := by decide +kernel
  have hw2 := hts (.fieldLink RX3 12 "BeliefReviser" "pile" "LBeliefReviser$Pile;") (List.mem_of_getElem? (i := 2) rfl)
  have hw3 := hts (.constantLong RX3 188 191) (List.mem_of_getElem? (i := 3) rfl)
  have hw4 := hts (.fieldLink RX3 26 "BeliefReviser" "mind" "LBeliefReviser$Mind;") (List.mem_of_getElem? (i := 4) rfl)
  have hw5 := hts (.static yX3_digestStep) (List.mem_of_getElem? (i := 12) rfl)
  have hP : va_P G vwCl [(x, .inr (3, [.ref xp, .ref xb, .ref xm])), (xp, .inr (2, [.ref ap, .int (nI pn)])), (ap, .inl (cI, 12, .inl pf)), (xb, .inr (0, [.ref as, .ref ar, .ref am, .int (nI bn)])), (as, .inl (cI, 10, .inl bs)), (ar, .inl (cI, 10, .inl br)), (am, .inl (cI, 1024, .inl mt)), (xm, .inr (1, [.ref al, .ref ak])), (al, .inl (cI, 16, .inl lv)), (ak, .inl (cI, 16, .inl ks))] s.heap := hP
  have hl := lv_entry ([.ref x]) (n := 3) (Nat.le_of_ble_eq_true rfl)
  rw [lg_entry_eq]
  generalize (lg_sl ([.ref x]) ++ List.replicate (3 - (lg_sl ([.ref x])).length) Slot.unset).toArray = ls at hl ⊢
  have hl : lv_has ls 3 [(0, .ref x)] := hl
  refine lv_aload_n (pc := 0) hx hb dX3_digest_0 rfl (lv_at hl 0 rfl) ?_
  refine va_get (pc := 1) (D := G) (ci := 3) (v := .ref xb) (C := RX3) (T := TX3) (N := 3) hx hb hts hw1 hown hK hP 0 rfl rfl 1 (by decide) hw0 (fun _ h9 => h9) rfl dX3_digest_1 ?_
  refine lv_aload_n (pc := 4) hx hb dX3_digest_4 rfl (lv_at hl 0 rfl) ?_
  refine va_get (pc := 5) (D := G) (ci := 3) (v := .ref xp) (C := RX3) (T := TX3) (N := 3) hx hb hts hw1 hown hK hP 0 rfl rfl 0 (by decide) hw2 (fun _ h9 => h9) rfl dX3_digest_5 ?_
  refine lv_ldc2 (pc := 8) hx hb hown hw3 dX3_digest_8 ?_
  have hPc := hP.sub (ws' := [(xp, .inr (2, [.ref ap, .int (nI pn)])), (ap, .inl (cI, 12, .inl pf))]) [1, 2] rfl
  refine bv_cSl (pc := 11) (E' := (bv_pdig (bv_dstep 191 (nI pn)) pf pn)) (va_runV (As := [.long 191]) (rest := [.ref xb]) ⟨hx, hb, hml, hown, hts⟩ (m_X2_digestOnto l G cI xp ap pn pf 191 hp) (cwV 1 hts gX3_digest_X2_digestOnto rfl rfl rfl (by decide +kernel) ⟨Nat.le_of_ble_eq_true rfl, Nat.le_of_ble_eq_true rfl⟩) (bv_pV hE hPc (va_recv hK hP (ci := 2) (q0 := 1) rfl rfl)) rfl rfl hl.1 rfl (lv_room (Nat.le_of_ble_eq_true rfl)) dX3_digest_11 ⟨Nat.le_of_ble_eq_true rfl, Nat.le_of_ble_eq_true rfl⟩) rfl ?_
  have hPc := hP.sub (ws' := [(xb, .inr (0, [.ref as, .ref ar, .ref am, .int (nI bn)])), (as, .inl (cI, 10, .inl bs)), (ar, .inl (cI, 10, .inl br)), (am, .inl (cI, 1024, .inl mt))]) [3, 4, 5, 6] rfl
  refine bv_cSl (pc := 14) (E' := (bv_bdig (bv_dstep (bv_pdig (bv_dstep 191 (nI pn)) pf pn) (nI bn)) bs br bn)) (va_runV (As := [.long (bv_pdig (bv_dstep 191 (nI pn)) pf pn)]) (rest := []) ⟨hx, hb, hml, hown, hts⟩ (m_X0_digestOnto l G cI xb as ar am bn bs br mt (bv_pdig (bv_dstep 191 (nI pn)) pf pn) hn) (cwV 1 hts gX3_digest_X0_digestOnto rfl rfl rfl (by decide +kernel) ⟨Nat.le_of_ble_eq_true rfl, Nat.le_of_ble_eq_true rfl⟩) (bv_pV hE hPc (va_recv hK hP (ci := 0) (q0 := 3) rfl rfl)) rfl rfl hl.1 rfl (lv_room (Nat.le_of_ble_eq_true rfl)) dX3_digest_14 ⟨Nat.le_of_ble_eq_true rfl, Nat.le_of_ble_eq_true rfl⟩) rfl ?_
  refine lv_lstore_n (pc := 17) (lv' := [(1, .long (bv_bdig (bv_dstep (bv_pdig (bv_dstep 191 (nI pn)) pf pn) (nI bn)) bs br bn)), (0, .ref x)]) hx hb dX3_digest_17 rfl hl (by decide) rfl (fun ls hl => ?_)
  refine lv_aload_n (pc := 18) hx hb dX3_digest_18 rfl (lv_at hl 1 rfl) ?_
  refine va_get (pc := 19) (D := G) (ci := 3) (v := .ref xm) (C := RX3) (T := TX3) (N := 3) hx hb hts hw1 hown hK hP 0 rfl rfl 2 (by decide) hw4 (fun _ h9 => h9) rfl dX3_digest_19 ?_
  refine lv_lload_n (pc := 22) hx hb dX3_digest_22 rfl (lv_at hl 0 rfl) ?_
  refine lv_aload_n (pc := 23) hx hb dX3_digest_23 rfl (lv_at hl 1 rfl) ?_
  refine va_get (pc := 24) (D := G) (ci := 3) (v := .ref xb) (C := RX3) (T := TX3) (N := 3) hx hb hts hw1 hown hK hP 0 rfl rfl 1 (by decide) hw0 (fun _ h9 => h9) rfl dX3_digest_24 ?_
  refine lv_iconst (pc := 27) (v := 0) hx hb dX3_digest_27 (by decide) ?_
  have hPc := hP.sub (ws' := [(xb, .inr (0, [.ref as, .ref ar, .ref am, .int (nI bn)])), (as, .inl (cI, 10, .inl bs)), (ar, .inl (cI, 10, .inl br)), (am, .inl (cI, 1024, .inl mt))]) [3, 4, 5, 6] rfl
  refine bv_cSi (pc := 28) (E' := (nI (bv_degn bs br bn 0))) (va_runV (As := [.int 0]) (rest := [.long (bv_bdig (bv_dstep (bv_pdig (bv_dstep 191 (nI pn)) pf pn) (nI bn)) bs br bn), .ref xm]) ⟨hx, hb, hml, hown, hts⟩ (m_X0_degreeOf l G cI xb as ar am bn bs br mt 0 hn hM) (cwV 1 hts gX3_digest_X0_degreeOf rfl rfl rfl (by decide +kernel) ⟨Nat.le_of_ble_eq_true rfl, Nat.le_of_ble_eq_true rfl⟩) (bv_pV hE hPc (va_recv hK hP (ci := 0) (q0 := 3) rfl rfl)) rfl rfl hl.1 rfl (lv_room (Nat.le_of_ble_eq_true rfl)) dX3_digest_28 ⟨Nat.le_of_ble_eq_true rfl, Nat.le_of_ble_eq_true rfl⟩) rfl ?_
  have hPc := hP.sub (ws' := []) [] rfl
  refine bv_cSl (pc := 31) (E' := (bv_dstep (bv_bdig (bv_dstep (bv_pdig (bv_dstep 191 (nI pn)) pf pn) (nI bn)) bs br bn) (nI (bv_degn bs br bn 0)))) (va_runS (As := [.long (bv_bdig (bv_dstep (bv_pdig (bv_dstep 191 (nI pn)) pf pn) (nI bn)) bs br bn), .int (nI (bv_degn bs br bn 0))]) (rest := [.ref xm]) ⟨hx, hb, hml, hown, hts⟩ (m_X3_digestStep l G cI (bv_bdig (bv_dstep (bv_pdig (bv_dstep 191 (nI pn)) pf pn) (nI bn)) bs br bn) (nI (bv_degn bs br bn 0)) ) (va_cwS 2 hts gX3_digest_X3_digestStep rfl rfl rfl (by decide +kernel) ⟨Nat.le_of_ble_eq_true rfl, Nat.le_of_ble_eq_true rfl⟩) (bv_pS hE hPc) rfl rfl hl.1 rfl (lv_room (Nat.le_of_ble_eq_true rfl)) dX3_digest_31 ⟨Nat.le_of_ble_eq_true rfl, Nat.le_of_ble_eq_true rfl⟩) rfl ?_
  have hPc := hP.sub (ws' := [(xm, .inr (1, [.ref al, .ref ak])), (al, .inl (cI, 16, .inl lv)), (ak, .inl (cI, 16, .inl ks))]) [7, 8, 9] rfl
  refine bv_cSl (pc := 34) (E' := (bv_ldig (bv_dstep (bv_bdig (bv_dstep (bv_pdig (bv_dstep 191 (nI pn)) pf pn) (nI bn)) bs br bn) (nI (bv_degn bs br bn 0))) lv 16)) (va_runV (As := [.long (bv_dstep (bv_bdig (bv_dstep (bv_pdig (bv_dstep 191 (nI pn)) pf pn) (nI bn)) bs br bn) (nI (bv_degn bs br bn 0)))]) (rest := []) ⟨hx, hb, hml, hown, hts⟩ (m_X1_digestOnto l G cI xm al ak lv ks (bv_dstep (bv_bdig (bv_dstep (bv_pdig (bv_dstep 191 (nI pn)) pf pn) (nI bn)) bs br bn) (nI (bv_degn bs br bn 0))) ) (cwV 1 hts gX3_digest_X1_digestOnto rfl rfl rfl (by decide +kernel) ⟨Nat.le_of_ble_eq_true rfl, Nat.le_of_ble_eq_true rfl⟩) (bv_pV hE hPc (va_recv hK hP (ci := 1) (q0 := 7) rfl rfl)) rfl rfl hl.1 rfl (lv_room (Nat.le_of_ble_eq_true rfl)) dX3_digest_34 ⟨Nat.le_of_ble_eq_true rfl, Nat.le_of_ble_eq_true rfl⟩) rfl ?_
  exact W.lret (pc := 37) (v := (bv_ldig (bv_dstep (bv_bdig (bv_dstep (bv_pdig (bv_dstep 191 (nI pn)) pf pn) (nI bn)) bs br bn) (nI (bv_degn bs br bn 0))) lv 16)) hx hb hr (fun T8 hT8 hW8 => ⟨(bv_ldig (bv_dstep (bv_bdig (bv_dstep (bv_pdig (bv_dstep 191 (nI pn)) pf pn) (nI bn)) bs br bn) (nI (bv_degn bs br bn 0))) lv 16), rfl, rfl, hT8⟩) (fun _ h => nomatch h) dX3_digest_37
