set_option maxHeartbeats 4000000 in
set_option maxRecDepth 100000 in
theorem m_X3_add (l : Launch) (G : va_G) (cI : ClassId) (sz : Nat) (x xp ap pn xb as ar am bn xm al ak : Nat) (pf bs br mt lv ks : Nat → Int32) (r : Int32) (hp : pn ≤ 12) (hn : bn ≤ 10) (hM : ∀ t, t < 2 ^ bn → mt t = bv_wi bs t bn) (hr9 : 1 ≤ r ∧ r ≤ 9) (h1 : 1 ≤ pn) (h10 : bn < 10) : Met l yX3_add wsX3_add ({ frames := 3, cells := 0, slots := 0, locals := 62 }) (bv_P [.ref x, .int r] G cI (fun H => H.size = sz ∧ va_P G vwCl [(x, .inr (3, [.ref xp, .ref xb, .ref xm])), (xp, .inr (2, [.ref ap, .int (nI pn)])), (ap, .inl (cI, 12, .inl pf)), (xb, .inr (0, [.ref as, .ref ar, .ref am, .int (nI bn)])), (as, .inl (cI, 10, .inl bs)), (ar, .inl (cI, 10, .inl br)), (am, .inl (cI, 1024, .inl mt)), (xm, .inr (1, [.ref al, .ref ak])), (al, .inl (cI, 16, .inl lv)), (ak, .inl (cI, 16, .inl ks))] H ∧ va_D (fun _ => True) [(x, .inr (3, [.ref xp, .ref xb, .ref xm])), (xp, .inr (2, [.ref ap, .int (nI pn)])), (ap, .inl (cI, 12, .inl pf)), (xb, .inr (0, [.ref as, .ref ar, .ref am, .int (nI bn)])), (as, .inl (cI, 10, .inl bs)), (ar, .inl (cI, 10, .inl br)), (am, .inl (cI, 1024, .inl mt)), (xm, .inr (1, [.ref al, .ref ak])), (al, .inl (cI, 16, .inl lv)), (ak, .inl (cI, 16, .inl ks))])) (va_Qi (fun (r9 : Int32) (_ : Unit) => r9 = (nI bn)) (fun (_ : Unit) (T9 : State) => va_P G vwCl [(x, .inr (3, [.ref xp, .ref xb, .ref xm])), (xp, .inr (2, [.ref ap, .int (nI pn)])), (ap, .inl (cI, 12, .inl pf)), (xb, .inr (0, [.ref as, .ref ar, .ref am, .int (nI (bn + 1))])), (as, .inl (cI, 10, .inl (upd bs bn (pf (pn - 1))))), (ar, .inl (cI, 10, .inl (upd br bn r))), (am, .inl (cI, 1024, .inl (bv_mx mt (2 ^ bn) (pf (pn - 1)) (2 ^ bn)))), (xm, .inr (1, [.ref al, .ref ak])), (al, .inl (cI, 16, .inl lv)), (ak, .inl (cI, 16, .inl ks))] T9.heap) (va_A [(x, .inr (3, [.ref xp, .ref xb, .ref xm])), (xp, .inr (2, [.ref ap, .int (nI pn)])), (ap, .inl (cI, 12, .inl pf)), (xb, .inr (0, [.ref as, .ref ar, .ref am, .int (nI bn)])), (as, .inl (cI, 10, .inl bs)), (ar, .inl (cI, 10, .inl br)), (am, .inl (cI, 1024, .inl mt)), (xm, .inr (1, [.ref al, .ref ak])), (al, .inl (cI, 16, .inl lv)), (ak, .inl (cI, 16, .inl ks))] sz)) 0 0 (va_A [(x, .inr (3, [.ref xp, .ref xb, .ref xm])), (xp, .inr (2, [.ref ap, .int (nI pn)])), (ap, .inl (cI, 12, .inl pf)), (xb, .inr (0, [.ref as, .ref ar, .ref am, .int (nI bn)])), (as, .inl (cI, 10, .inl bs)), (ar, .inl (cI, 10, .inl br)), (am, .inl (cI, 1024, .inl mt)), (xm, .inr (1, [.ref al, .ref ak])), (al, .inl (cI, 16, .inl lv)), (ak, .inl (cI, 16, .inl ks))] sz) := by
  refine Met.ofW (cc := cX3_add) (maxL := 3) (ret := (some .int)) (by decide) rfl ?_
  intro p e s m args below meth c s₁ B hml hv
  obtain ⟨rfl, ⟨hsz, hP, hD0⟩, hE⟩ := hv
  have hx := B.exec
  have hb := B.bytes
  have hr := B.returns
  have hts := atoms_spec (ws := wsX3_add) B.pre
  have hown : s.vm.findClass RX3 = some m.cls := findClass_of_methodNamed B.named
  have hlocks := B.notSynchronized
  have hK := hE.1
  have hw0 := hts (.static yX3_requireRank) (List.mem_of_getElem? (i := 5) rfl)
  have hw1 := hts (.fieldLink RX3 19 "BeliefReviser" "base" "LBeliefReviser$Base;") (List.mem_of_getElem? (i := 3) rfl)
  have hw2 : ∀ w ∈ u_ws RX3 TX3 3, w ∈ wsX3_add := by decide +kernel
  subst hsz
  have hD := hD0.self (sz := s.heap.size)
  generalize hAe : va_A [(x, .inr (3, [.ref xp, .ref xb, .ref xm])), (xp, .inr (2, [.ref ap, .int (nI pn)])), (ap, .inl (cI, 12, .inl pf)), (xb, .inr (0, [.ref as, .ref ar, .ref am, .int (nI bn)])), (as, .inl (cI, 10, .inl bs)), (ar, .inl (cI, 10, .inl br)), (am, .inl (cI, 1024, .inl mt)), (xm, .inr (1, [.ref al, .ref ak])), (al, .inl (cI, 16, .inl lv)), (ak, .inl (cI, 16, .inl ks))] s.heap.size = A at hD ⊢
  have hA : ∀ q : Nat, s.heap.size ≤ q → A q := fun q h => by rw [← hAe]; exact Or.inr h
  have hS : va_S A s.heap s.heap [] := va_S.rf
  have hP : va_P G vwCl [(x, .inr (3, [.ref xp, .ref xb, .ref xm])), (xp, .inr (2, [.ref ap, .int (nI pn)])), (ap, .inl (cI, 12, .inl pf)), (xb, .inr (0, [.ref as, .ref ar, .ref am, .int (nI bn)])), (as, .inl (cI, 10, .inl bs)), (ar, .inl (cI, 10, .inl br)), (am, .inl (cI, 1024, .inl mt)), (xm, .inr (1, [.ref al, .ref ak])), (al, .inl (cI, 16, .inl lv)), (ak, .inl (cI, 16, .inl ks))] s.heap := hP
  have hl := lv_entry ([.ref x, .int r]) (n := 3) (Nat.le_of_ble_eq_true rfl)
  rw [lg_entry_eq]
  generalize (lg_sl ([.ref x, .int r]) ++ List.replicate (3 - (lg_sl ([.ref x, .int r])).length) Slot.unset).toArray = ls at hl ⊢
  have hl : lv_has ls 3 [(0, .ref x), (1, .int r)] := hl
  refine lv_iload_n (pc := 0) hx hb dX3_add_0 rfl (lv_at hl 1 rfl) ?_
  have hPc := hP.sub (ws' := []) [] rfl
  refine bv_cSv (pc := 1) (va_runS (As := [.int r]) (rest := []) ⟨hx, hb, hml, hown, hts⟩ (m_X3_requireRank l G cI r (by first | assumption | omega)) (va_cwS 1 hts gX3_add_X3_requireRank rfl rfl rfl (by decide +kernel) ⟨Nat.le_of_ble_eq_true rfl, Nat.le_of_ble_eq_true rfl⟩) (bv_pS hE hPc) rfl rfl hl.1 rfl (lv_room (Nat.le_of_ble_eq_true rfl)) dX3_add_1 ⟨Nat.le_of_ble_eq_true rfl, Nat.le_of_ble_eq_true rfl⟩) ?_
  refine lv_aload_n (pc := 4) hx hb dX3_add_4 rfl (lv_at hl 0 rfl) ?_
  have hPc := hP.sub (ws' := [(x, .inr (3, [.ref xp, .ref xb, .ref xm])), (xp, .inr (2, [.ref ap, .int (nI pn)])), (ap, .inl (cI, 12, .inl pf)), (xb, .inr (0, [.ref as, .ref ar, .ref am, .int (nI bn)])), (as, .inl (cI, 10, .inl bs)), (ar, .inl (cI, 10, .inl br)), (am, .inl (cI, 1024, .inl mt)), (xm, .inr (1, [.ref al, .ref ak])), (al, .inl (cI, 16, .inl lv)), (ak, .inl (cI, 16, .inl ks))]) [0, 1, 2, 3, 4, 5, 6, 7, 8, 9] rfl
  refine bv_cSi (pc := 5) (E' := (pf (pn - 1))) (va_runV (As := []) (rest := []) ⟨hx, hb, hml, hown, hts⟩ (m_X3_requireTop l G cI x xp ap pn xb as ar am bn xm al ak pf bs br mt lv ks (by first | assumption | omega) (by first | assumption | omega)) (cwV 0 hts gX3_add_X3_requireTop rfl rfl rfl (by decide +kernel) ⟨Nat.le_of_ble_eq_true rfl, Nat.le_of_ble_eq_true rfl⟩) (bv_pV hE hPc (va_recv hK hP (ci := 3) (q0 := 0) rfl rfl)) rfl rfl hl.1 rfl (lv_room (Nat.le_of_ble_eq_true rfl)) dX3_add_5 ⟨Nat.le_of_ble_eq_true rfl, Nat.le_of_ble_eq_true rfl⟩) rfl ?_
  refine lv_istore_n (pc := 8) (lv' := [(2, .int (pf (pn - 1))), (0, .ref x), (1, .int r)]) hx hb dX3_add_8 rfl hl (by decide) rfl (fun ls hl => ?_)
  refine lv_aload_n (pc := 9) hx hb dX3_add_9 rfl (lv_at hl 1 rfl) ?_
  refine va_get (pc := 10) (D := G) (ci := 3) (v := .ref xb) (C := RX3) (T := TX3) (N := 3) hx hb hts hw2 hown hK hP 0 rfl rfl 1 (by decide) hw1 (fun _ h9 => h9) rfl dX3_add_10 ?_
  have hPc := hP.sub (ws' := [(xb, .inr (0, [.ref as, .ref ar, .ref am, .int (nI bn)])), (as, .inl (cI, 10, .inl bs)), (ar, .inl (cI, 10, .inl br)), (am, .inl (cI, 1024, .inl mt))]) [3, 4, 5, 6] rfl
  refine bv_cSi (pc := 13) (E' := (bv_b (decide (10 ≤ bn)))) (va_runV (As := []) (rest := []) ⟨hx, hb, hml, hown, hts⟩ (m_X0_isFull l G cI xb as ar am bn bs br mt (by first | assumption | omega)) (cwV 0 hts gX3_add_X0_isFull rfl rfl rfl (by decide +kernel) ⟨Nat.le_of_ble_eq_true rfl, Nat.le_of_ble_eq_true rfl⟩) (bv_pV hE hPc (va_recv hK hP (ci := 0) (q0 := 3) rfl rfl)) rfl rfl hl.1 rfl (lv_room (Nat.le_of_ble_eq_true rfl)) dX3_add_13 ⟨Nat.le_of_ble_eq_true rfl, Nat.le_of_ble_eq_true rfl⟩) rfl ?_
  refine lv_if_eq (pc := 16) (tgt := 29) hx hb dX3_add_16 (by decide) (fun c16_7 => ?_) (fun c16_7 => ?_)
  · refine lv_aload_n (pc := 29) hx hb dX3_add_29 rfl (lv_at hl 1 rfl) ?_
    refine va_get (pc := 30) (D := G) (ci := 3) (v := .ref xb) (C := RX3) (T := TX3) (N := 3) hx hb hts hw2 hown hK hP 0 rfl rfl 1 (by decide) hw1 (fun _ h9 => h9) rfl dX3_add_30 ?_
    refine lv_iload_n (pc := 33) hx hb dX3_add_33 rfl (lv_at hl 0 rfl) ?_
    refine lv_iload_n (pc := 34) hx hb dX3_add_34 rfl (lv_at hl 2 rfl) ?_
    have hPc := hP.sub (ws' := [(xb, .inr (0, [.ref as, .ref ar, .ref am, .int (nI bn)])), (as, .inl (cI, 10, .inl bs)), (ar, .inl (cI, 10, .inl br)), (am, .inl (cI, 1024, .inl mt))]) [3, 4, 5, 6] rfl
    have hDc := hD.sub (ws' := [(xb, .inr (0, [.ref as, .ref ar, .ref am, .int (nI bn)])), (as, .inl (cI, 10, .inl bs)), (ar, .inl (cI, 10, .inl br)), (am, .inl (cI, 1024, .inl mt))]) [3, 4, 5, 6] (by decide) rfl
    have hFc := va_free (wc := [(xb, .inr (0, [.ref as, .ref ar, .ref am, .int (nI bn)])), (as, .inl (cI, 10, .inl bs)), (ar, .inl (cI, 10, .inl br)), (am, .inl (cI, 1024, .inl mt))]) hD hS hA [3, 4, 5, 6] rfl
    refine va_callv (pc := 35) (va_runV (As := [.int (pf (pn - 1)), .int r]) (rest := []) ⟨hx, hb, hml, hown, hts⟩ (m_X0_include l G cI s.heap.size xb as ar am bn bs br mt (pf (pn - 1)) r h10) (cwV 2 hts gX3_add_X0_include rfl rfl rfl (by decide +kernel) ⟨Nat.le_of_ble_eq_true rfl, Nat.le_of_ble_eq_true rfl⟩) (bv_pV hE ⟨rfl, hPc, hDc.weaken (fun _ _ _ _ => trivial)⟩ (va_recv hK hP (ci := 0) (q0 := 3) rfl rfl)) rfl rfl hl.1 rfl (lv_room (Nat.le_of_ble_eq_true rfl)) dX3_add_35 ⟨Nat.le_of_ble_eq_true rfl, Nat.le_of_ble_eq_true rfl⟩) hS (fun q _ h => hFc q h) hFc (fun u8 t8 H1 locs ht8 hvm8 e_9 hB8 hz1 hk1 hS => ?_)
    have hP1 : va_P G vwCl [(xb, .inr (0, [.ref as, .ref ar, .ref am, .int (nI (bn + 1))])), (as, .inl (cI, 10, .inl (upd bs bn (pf (pn - 1))))), (ar, .inl (cI, 10, .inl (upd br bn r))), (am, .inl (cI, 1024, .inl (bv_mx mt (2 ^ bn) (pf (pn - 1)) (2 ^ bn))))] H1 := by rw [← ht8]; exact hB8
    obtain ⟨hP, hD⟩ := va_join (wr := [(x, .inr (3, [.ref xp, .ref xb, .ref xm])), (xp, .inr (2, [.ref ap, .int (nI pn)])), (ap, .inl (cI, 12, .inl pf)), (xm, .inr (1, [.ref al, .ref ak])), (al, .inl (cI, 16, .inl lv)), (ak, .inl (cI, 16, .inl ks))]) (w1 := [(xb, .inr (0, [.ref as, .ref ar, .ref am, .int (nI (bn + 1))])), (as, .inl (cI, 10, .inl (upd bs bn (pf (pn - 1))))), (ar, .inl (cI, 10, .inl (upd br bn r))), (am, .inl (cI, 1024, .inl (bv_mx mt (2 ^ bn) (pf (pn - 1)) (2 ^ bn))))]) hP hD [3, 4, 5, 6] [0, 1, 2, 7, 8, 9] rfl rfl (by decide) (by decide) hk1 hFc hP1 (bv_Dm (w0 := [(xb, .inr (0, [.ref as, .ref ar, .ref am, .int (nI bn)])), (as, .inl (cI, 10, .inl bs)), (ar, .inl (cI, 10, .inl br)), (am, .inl (cI, 1024, .inl mt))]) [xb, as, ar, am] rfl rfl hDc.self)
    have hP : va_P G vwCl [(x, .inr (3, [.ref xp, .ref xb, .ref xm])), (xp, .inr (2, [.ref ap, .int (nI pn)])), (ap, .inl (cI, 12, .inl pf)), (xb, .inr (0, [.ref as, .ref ar, .ref am, .int (nI (bn + 1))])), (as, .inl (cI, 10, .inl (upd bs bn (pf (pn - 1))))), (ar, .inl (cI, 10, .inl (upd br bn r))), (am, .inl (cI, 1024, .inl (bv_mx mt (2 ^ bn) (pf (pn - 1)) (2 ^ bn)))), (xm, .inr (1, [.ref al, .ref ak])), (al, .inl (cI, 16, .inl lv)), (ak, .inl (cI, 16, .inl ks))] H1 := hP.sub (ws' := [(x, .inr (3, [.ref xp, .ref xb, .ref xm])), (xp, .inr (2, [.ref ap, .int (nI pn)])), (ap, .inl (cI, 12, .inl pf)), (xb, .inr (0, [.ref as, .ref ar, .ref am, .int (nI (bn + 1))])), (as, .inl (cI, 10, .inl (upd bs bn (pf (pn - 1))))), (ar, .inl (cI, 10, .inl (upd br bn r))), (am, .inl (cI, 1024, .inl (bv_mx mt (2 ^ bn) (pf (pn - 1)) (2 ^ bn)))), (xm, .inr (1, [.ref al, .ref ak])), (al, .inl (cI, 16, .inl lv)), (ak, .inl (cI, 16, .inl ks))]) [0, 1, 2, 6, 7, 8, 9, 3, 4, 5] rfl
    have hD : va_D A [(x, .inr (3, [.ref xp, .ref xb, .ref xm])), (xp, .inr (2, [.ref ap, .int (nI pn)])), (ap, .inl (cI, 12, .inl pf)), (xb, .inr (0, [.ref as, .ref ar, .ref am, .int (nI (bn + 1))])), (as, .inl (cI, 10, .inl (upd bs bn (pf (pn - 1))))), (ar, .inl (cI, 10, .inl (upd br bn r))), (am, .inl (cI, 1024, .inl (bv_mx mt (2 ^ bn) (pf (pn - 1)) (2 ^ bn)))), (xm, .inr (1, [.ref al, .ref ak])), (al, .inl (cI, 16, .inl lv)), (ak, .inl (cI, 16, .inl ks))] := hD.sub (ws' := [(x, .inr (3, [.ref xp, .ref xb, .ref xm])), (xp, .inr (2, [.ref ap, .int (nI pn)])), (ap, .inl (cI, 12, .inl pf)), (xb, .inr (0, [.ref as, .ref ar, .ref am, .int (nI (bn + 1))])), (as, .inl (cI, 10, .inl (upd bs bn (pf (pn - 1))))), (ar, .inl (cI, 10, .inl (upd br bn r))), (am, .inl (cI, 1024, .inl (bv_mx mt (2 ^ bn) (pf (pn - 1)) (2 ^ bn)))), (xm, .inr (1, [.ref al, .ref ak])), (al, .inl (cI, 16, .inl lv)), (ak, .inl (cI, 16, .inl ks))]) [0, 1, 2, 6, 7, 8, 9, 3, 4, 5] (by decide) rfl
    generalize H1 = H at hP hS ⊢
    refine lv_aload_n (pc := 38) hx hb dX3_add_38 rfl (lv_at hl 1 rfl) ?_
    refine va_get (pc := 39) (D := G) (ci := 3) (v := .ref xb) (C := RX3) (T := TX3) (N := 3) hx hb hts hw2 hown hK hP 0 rfl rfl 1 (by decide) hw1 (fun _ h9 => h9) rfl dX3_add_39 ?_
    have hPc := hP.sub (ws' := [(xb, .inr (0, [.ref as, .ref ar, .ref am, .int (nI (bn + 1))])), (as, .inl (cI, 10, .inl (upd bs bn (pf (pn - 1))))), (ar, .inl (cI, 10, .inl (upd br bn r))), (am, .inl (cI, 1024, .inl (bv_mx mt (2 ^ bn) (pf (pn - 1)) (2 ^ bn))))]) [3, 4, 5, 6] rfl
    refine bv_cSi (pc := 42) (E' := (nI (bn + 1))) (va_runV (As := []) (rest := []) ⟨hx, hb, hml, hown, hts⟩ (m_X0_count l G cI xb as ar am (bn + 1) (upd bs bn (pf (pn - 1))) (upd br bn r) (bv_mx mt (2 ^ bn) (pf (pn - 1)) (2 ^ bn)) ) (cwV 0 hts gX3_add_X0_count rfl rfl rfl (by decide +kernel) ⟨Nat.le_of_ble_eq_true rfl, Nat.le_of_ble_eq_true rfl⟩) (bv_pV hE hPc (va_recv hK hP (ci := 0) (q0 := 3) rfl rfl)) rfl rfl hl.1 rfl (lv_room (Nat.le_of_ble_eq_true rfl)) dX3_add_42 ⟨Nat.le_of_ble_eq_true rfl, Nat.le_of_ble_eq_true rfl⟩) rfl ?_
    refine lv_iconst (pc := 45) (v := 1) hx hb dX3_add_45 (by decide) ?_
    refine lv_isub (pc := 46) hx hb dX3_add_46 ?_
    have hP9 : va_P G vwCl [(x, .inr (3, [.ref xp, .ref xb, .ref xm])), (xp, .inr (2, [.ref ap, .int (nI pn)])), (ap, .inl (cI, 12, .inl pf)), (xb, .inr (0, [.ref as, .ref ar, .ref am, .int (nI (bn + 1))])), (as, .inl (cI, 10, .inl (upd bs bn (pf (pn - 1))))), (ar, .inl (cI, 10, .inl (upd br bn r))), (am, .inl (cI, 1024, .inl (bv_mx mt (2 ^ bn) (pf (pn - 1)) (2 ^ bn)))), (xm, .inr (1, [.ref al, .ref ak])), (al, .inl (cI, 16, .inl lv)), (ak, .inl (cI, 16, .inl ks))] H := hP
    exact W.iret (pc := 47) (v := ((nI (bn + 1)) - 1)) hx hb hr (fun T8 hT8 hW8 => ⟨⟨((nI (bn + 1)) - 1), (), rfl, (by rw [show (1 : Int32) = nI 1 from rfl, bv_sub (by omega), Nat.add_sub_cancel]), bv_hP hT8 hP9⟩, hS.F hT8⟩) hS.2.2 dX3_add_47
  · exact absurd (of_decide_eq_true (bv_b1.mp c16_7)) (by omega)
set_option maxHeartbeats 4000000 in
set_option maxRecDepth 100000 in
theorem m_X3_size (l : Launch) (G : va_G) (cI : ClassId) (x xp ap pn xb as ar am bn xm al ak : Nat) (pf bs br mt lv ks : Nat → Int32) (hp : pn ≤ 12) (hn : bn ≤ 10) (hM : ∀ t, t < 2 ^ bn → mt t = bv_wi bs t bn) : Met l yX3_size wsX3_size ({ frames := 1, cells := 0, slots := 0, locals := 20 }) (bv_P [.ref x] G cI (fun H => va_P G vwCl [(x, .inr (3, [.ref xp, .ref xb, .ref xm])), (xp, .inr (2, [.ref ap, .int (nI pn)])), (ap, .inl (cI, 12, .inl pf)), (xb, .inr (0, [.ref as, .ref ar, .ref am, .int (nI bn)])), (as, .inl (cI, 10, .inl bs)), (ar, .inl (cI, 10, .inl br)), (am, .inl (cI, 1024, .inl mt)), (xm, .inr (1, [.ref al, .ref ak])), (al, .inl (cI, 16, .inl lv)), (ak, .inl (cI, 16, .inl ks))] H)) (vp_Si (fun r9 : Int32 => r9 = (nI bn))) 0 0 (fun _ => False) := by
  refine Met.ofW (cc := cX3_size) (maxL := 1) (ret := (some .int)) (by decide) rfl ?_
  intro p e s m args below meth c s₁ B hml hv
  obtain ⟨rfl, hP, hE⟩ := hv
  have hx := B.exec
  have hb := B.bytes
  have hr := B.returns
  have hts := atoms_spec (ws := wsX3_size) B.pre
  have hown : s.vm.findClass RX3 = some m.cls := findClass_of_methodNamed B.named
  have hlocks := B.notSynchronized
  have hK := hE.1
  have hw0 := hts (.fieldLink RX3 19 "BeliefReviser" "base" "LBeliefReviser$Base;") (List.mem_of_getElem? (i := 1) rfl)
  have hw1 : ∀ w ∈ u_ws RX3 TX3 3, w ∈ wsX3_size := by decide +kernel
  have hP : va_P G vwCl [(x, .inr (3, [.ref xp, .ref xb, .ref xm])), (xp, .inr (2, [.ref ap, .int (nI pn)])), (ap, .inl (cI, 12, .inl pf)), (xb, .inr (0, [.ref as, .ref ar, .ref am, .int (nI bn)])), (as, .inl (cI, 10, .inl bs)), (ar, .inl (cI, 10, .inl br)), (am, .inl (cI, 1024, .inl mt)), (xm, .inr (1, [.ref al, .ref ak])), (al, .inl (cI, 16, .inl lv)), (ak, .inl (cI, 16, .inl ks))] s.heap := hP
  have hl := lv_entry ([.ref x]) (n := 1) (Nat.le_of_ble_eq_true rfl)
  rw [lg_entry_eq]
  generalize (lg_sl ([.ref x]) ++ List.replicate (1 - (lg_sl ([.ref x])).length) Slot.unset).toArray = ls at hl ⊢
  have hl : lv_has ls 1 [(0, .ref x)] := hl
  refine lv_aload_n (pc := 0) hx hb dX3_size_0 rfl (lv_at hl 0 rfl) ?_
  refine va_get (pc := 1) (D := G) (ci := 3) (v := .ref xb) (C := RX3) (T := TX3) (N := 3) hx hb hts hw1 hown hK hP 0 rfl rfl 1 (by decide) hw0 (fun _ h9 => h9) rfl dX3_size_1 ?_
  have hPc := hP.sub (ws' := [(xb, .inr (0, [.ref as, .ref ar, .ref am, .int (nI bn)])), (as, .inl (cI, 10, .inl bs)), (ar, .inl (cI, 10, .inl br)), (am, .inl (cI, 1024, .inl mt))]) [3, 4, 5, 6] rfl
  refine bv_cSi (pc := 4) (E' := (nI bn)) (va_runV (As := []) (rest := []) ⟨hx, hb, hml, hown, hts⟩ (m_X0_count l G cI xb as ar am bn bs br mt ) (cwV 0 hts gX3_size_X0_count rfl rfl rfl (by decide +kernel) ⟨Nat.le_of_ble_eq_true rfl, Nat.le_of_ble_eq_true rfl⟩) (bv_pV hE hPc (va_recv hK hP (ci := 0) (q0 := 3) rfl rfl)) rfl rfl hl.1 rfl (lv_room (Nat.le_of_ble_eq_true rfl)) dX3_size_4 ⟨Nat.le_of_ble_eq_true rfl, Nat.le_of_ble_eq_true rfl⟩) rfl ?_
  exact W.iret (pc := 7) (v := (nI bn)) hx hb hr (fun T8 hT8 hW8 => ⟨(nI bn), rfl, rfl, hT8⟩) (fun _ h => nomatch h) dX3_size_7
set_option maxHeartbeats 4000000 in
set_option maxRecDepth 100000 in
theorem m_X3_worlds (l : Launch) (G : va_G) (cI : ClassId) (x xp ap pn xb as ar am bn xm al ak : Nat) (pf bs br mt lv ks : Nat → Int32) (t : Nat) (hp : pn ≤ 12) (hn : bn ≤ 10) (hM : ∀ t, t < 2 ^ bn → mt t = bv_wi bs t bn) (ht : t < 2 ^ bn) : Met l yX3_worlds wsX3_worlds ({ frames := 2, cells := 0, slots := 0, locals := 42 }) (bv_P [.ref x, .int (nI t)] G cI (fun H => va_P G vwCl [(x, .inr (3, [.ref xp, .ref xb, .ref xm])), (xp, .inr (2, [.ref ap, .int (nI pn)])), (ap, .inl (cI, 12, .inl pf)), (xb, .inr (0, [.ref as, .ref ar, .ref am, .int (nI bn)])), (as, .inl (cI, 10, .inl bs)), (ar, .inl (cI, 10, .inl br)), (am, .inl (cI, 1024, .inl mt)), (xm, .inr (1, [.ref al, .ref ak])), (al, .inl (cI, 16, .inl lv)), (ak, .inl (cI, 16, .inl ks))] H)) (vp_Si (fun r9 : Int32 => r9 = (bv_wi bs t bn))) 0 0 (fun _ => False) := by
  refine Met.ofW (cc := cX3_worlds) (maxL := 2) (ret := (some .int)) (by decide) rfl ?_
  intro p e s m args below meth c s₁ B hml hv
  obtain ⟨rfl, hP, hE⟩ := hv
  have hx := B.exec
  have hb := B.bytes
  have hr := B.returns
  have hts := atoms_spec (ws := wsX3_worlds) B.pre
  have hown : s.vm.findClass RX3 = some m.cls := findClass_of_methodNamed B.named
  have hlocks := B.notSynchronized
  have hK := hE.1
  have hw0 := hts (.fieldLink RX3 19 "BeliefReviser" "base" "LBeliefReviser$Base;") (List.mem_of_getElem? (i := 1) rfl)
  have hw1 : ∀ w ∈ u_ws RX3 TX3 3, w ∈ wsX3_worlds := by decide +kernel
  have hP : va_P G vwCl [(x, .inr (3, [.ref xp, .ref xb, .ref xm])), (xp, .inr (2, [.ref ap, .int (nI pn)])), (ap, .inl (cI, 12, .inl pf)), (xb, .inr (0, [.ref as, .ref ar, .ref am, .int (nI bn)])), (as, .inl (cI, 10, .inl bs)), (ar, .inl (cI, 10, .inl br)), (am, .inl (cI, 1024, .inl mt)), (xm, .inr (1, [.ref al, .ref ak])), (al, .inl (cI, 16, .inl lv)), (ak, .inl (cI, 16, .inl ks))] s.heap := hP
  have hl := lv_entry ([.ref x, .int (nI t)]) (n := 2) (Nat.le_of_ble_eq_true rfl)
  rw [lg_entry_eq]
  generalize (lg_sl ([.ref x, .int (nI t)]) ++ List.replicate (2 - (lg_sl ([.ref x, .int (nI t)])).length) Slot.unset).toArray = ls at hl ⊢
  have hl : lv_has ls 2 [(0, .ref x), (1, .int (nI t))] := hl
  refine lv_aload_n (pc := 0) hx hb dX3_worlds_0 rfl (lv_at hl 0 rfl) ?_
  refine lv_iload_n (pc := 1) hx hb dX3_worlds_1 rfl (lv_at hl 1 rfl) ?_
  have hPc := hP.sub (ws' := [(x, .inr (3, [.ref xp, .ref xb, .ref xm])), (xp, .inr (2, [.ref ap, .int (nI pn)])), (ap, .inl (cI, 12, .inl pf)), (xb, .inr (0, [.ref as, .ref ar, .ref am, .int (nI bn)])), (as, .inl (cI, 10, .inl bs)), (ar, .inl (cI, 10, .inl br)), (am, .inl (cI, 1024, .inl mt)), (xm, .inr (1, [.ref al, .ref ak])), (al, .inl (cI, 16, .inl lv)), (ak, .inl (cI, 16, .inl ks))]) [0, 1, 2, 3, 4, 5, 6, 7, 8, 9] rfl
  refine bv_cSv (pc := 2) (va_runV (As := [.int (nI t)]) (rest := []) ⟨hx, hb, hml, hown, hts⟩ (m_X3_requireSet l G cI x xp ap pn xb as ar am bn xm al ak pf bs br mt lv ks t (by first | assumption | omega) (by first | assumption | omega)) (cwV 1 hts gX3_worlds_X3_requireSet rfl rfl rfl (by decide +kernel) ⟨Nat.le_of_ble_eq_true rfl, Nat.le_of_ble_eq_true rfl⟩) (bv_pV hE hPc (va_recv hK hP (ci := 3) (q0 := 0) rfl rfl)) rfl rfl hl.1 rfl (lv_room (Nat.le_of_ble_eq_true rfl)) dX3_worlds_2 ⟨Nat.le_of_ble_eq_true rfl, Nat.le_of_ble_eq_true rfl⟩) ?_
  refine lv_aload_n (pc := 5) hx hb dX3_worlds_5 rfl (lv_at hl 0 rfl) ?_
  refine va_get (pc := 6) (D := G) (ci := 3) (v := .ref xb) (C := RX3) (T := TX3) (N := 3) hx hb hts hw1 hown hK hP 0 rfl rfl 1 (by decide) hw0 (fun _ h9 => h9) rfl dX3_worlds_6 ?_
  refine lv_iload_n (pc := 9) hx hb dX3_worlds_9 rfl (lv_at hl 1 rfl) ?_
  have hPc := hP.sub (ws' := [(xb, .inr (0, [.ref as, .ref ar, .ref am, .int (nI bn)])), (as, .inl (cI, 10, .inl bs)), (ar, .inl (cI, 10, .inl br)), (am, .inl (cI, 1024, .inl mt))]) [3, 4, 5, 6] rfl
  refine bv_cSi (pc := 10) (E' := (bv_wi bs t bn)) (va_runV (As := [.int (nI t)]) (rest := []) ⟨hx, hb, hml, hown, hts⟩ (m_X0_meetOf l G cI xb as ar am bn bs br mt t hn hM ht) (cwV 1 hts gX3_worlds_X0_meetOf rfl rfl rfl (by decide +kernel) ⟨Nat.le_of_ble_eq_true rfl, Nat.le_of_ble_eq_true rfl⟩) (bv_pV hE hPc (va_recv hK hP (ci := 0) (q0 := 3) rfl rfl)) rfl rfl hl.1 rfl (lv_room (Nat.le_of_ble_eq_true rfl)) dX3_worlds_10 ⟨Nat.le_of_ble_eq_true rfl, Nat.le_of_ble_eq_true rfl⟩) rfl ?_
  exact W.iret (pc := 13) (v := (bv_wi bs t bn)) hx hb hr (fun T8 hT8 hW8 => ⟨(bv_wi bs t bn), rfl, rfl, hT8⟩) (fun _ h => nomatch h) dX3_worlds_13
set_option maxHeartbeats 4000000 in
set_option maxRecDepth 100000 in
theorem m_X3_entails (l : Launch) (G : va_G) (cI : ClassId) (x xp ap pn xb as ar am bn xm al ak : Nat) (pf bs br mt lv ks : Nat → Int32) (t : Nat) (hp : pn ≤ 12) (hn : bn ≤ 10) (hM : ∀ t, t < 2 ^ bn → mt t = bv_wi bs t bn) (ht : t < 2 ^ bn) (h1 : 1 ≤ pn) : Met l yX3_entails wsX3_entails ({ frames := 3, cells := 0, slots := 0, locals := 62 }) (bv_P [.ref x, .int (nI t)] G cI (fun H => va_P G vwCl [(x, .inr (3, [.ref xp, .ref xb, .ref xm])), (xp, .inr (2, [.ref ap, .int (nI pn)])), (ap, .inl (cI, 12, .inl pf)), (xb, .inr (0, [.ref as, .ref ar, .ref am, .int (nI bn)])), (as, .inl (cI, 10, .inl bs)), (ar, .inl (cI, 10, .inl br)), (am, .inl (cI, 1024, .inl mt)), (xm, .inr (1, [.ref al, .ref ak])), (al, .inl (cI, 16, .inl lv)), (ak, .inl (cI, 16, .inl ks))] H)) (vp_Si (fun r9 : Int32 => r9 = (bv_b (bv_de bs bn t (pf (pn - 1)))))) 0 0 (fun _ => False) := by
  refine Met.ofW (cc := cX3_entails) (maxL := 3) (ret := (some .boolean)) (by decide) rfl ?_
  intro p e s m args below meth c s₁ B hml hv
  obtain ⟨rfl, hP, hE⟩ := hv
  have hx := B.exec
  have hb := B.bytes
  have hr := B.returns
  have hts := atoms_spec (ws := wsX3_entails) B.pre
  have hown : s.vm.findClass RX3 = some m.cls := findClass_of_methodNamed B.named
  have hlocks := B.notSynchronized
  have hK := hE.1
  have hw0 := hts (.fieldLink RX3 19 "BeliefReviser" "base" "LBeliefReviser$Base;") (List.mem_of_getElem? (i := 1) rfl)
  have hw1 : ∀ w ∈ u_ws RX3 TX3 3, w ∈ wsX3_entails := by decide +kernel
  have hP : va_P G vwCl [(x, .inr (3, [.ref xp, .ref xb, .ref xm])), (xp, .inr (2, [.ref ap, .int (nI pn)])), (ap, .inl (cI, 12, .inl pf)), (xb, .inr (0, [.ref as, .ref ar, .ref am, .int (nI bn)])), (as, .inl (cI, 10, .inl bs)), (ar, .inl (cI, 10, .inl br)), (am, .inl (cI, 1024, .inl mt)), (xm, .inr (1, [.ref al, .ref ak])), (al, .inl (cI, 16, .inl lv)), (ak, .inl (cI, 16, .inl ks))] s.heap := hP
  have hl := lv_entry ([.ref x, .int (nI t)]) (n := 3) (Nat.le_of_ble_eq_true rfl)
  rw [lg_entry_eq]
  generalize (lg_sl ([.ref x, .int (nI t)]) ++ List.replicate (3 - (lg_sl ([.ref x, .int (nI t)])).length) Slot.unset).toArray = ls at hl ⊢
  have hl : lv_has ls 3 [(0, .ref x), (1, .int (nI t))] := hl
  refine lv_aload_n (pc := 0) hx hb dX3_entails_0 rfl (lv_at hl 0 rfl) ?_
  have hPc := hP.sub (ws' := [(x, .inr (3, [.ref xp, .ref xb, .ref xm])), (xp, .inr (2, [.ref ap, .int (nI pn)])), (ap, .inl (cI, 12, .inl pf)), (xb, .inr (0, [.ref as, .ref ar, .ref am, .int (nI bn)])), (as, .inl (cI, 10, .inl bs)), (ar, .inl (cI, 10, .inl br)), (am, .inl (cI, 1024, .inl mt)), (xm, .inr (1, [.ref al, .ref ak])), (al, .inl (cI, 16, .inl lv)), (ak, .inl (cI, 16, .inl ks))]) [0, 1, 2, 3, 4, 5, 6, 7, 8, 9] rfl
  refine bv_cSi (pc := 1) (E' := (pf (pn - 1))) (va_runV (As := []) (rest := []) ⟨hx, hb, hml, hown, hts⟩ (m_X3_requireTop l G cI x xp ap pn xb as ar am bn xm al ak pf bs br mt lv ks (by first | assumption | omega) (by first | assumption | omega)) (cwV 0 hts gX3_entails_X3_requireTop rfl rfl rfl (by decide +kernel) ⟨Nat.le_of_ble_eq_true rfl, Nat.le_of_ble_eq_true rfl⟩) (bv_pV hE hPc (va_recv hK hP (ci := 3) (q0 := 0) rfl rfl)) rfl rfl hl.1 rfl (lv_room (Nat.le_of_ble_eq_true rfl)) dX3_entails_1 ⟨Nat.le_of_ble_eq_true rfl, Nat.le_of_ble_eq_true rfl⟩) rfl ?_
  refine lv_istore_n (pc := 4) (lv' := [(2, .int (pf (pn - 1))), (0, .ref x), (1, .int (nI t))]) hx hb dX3_entails_4 rfl hl (by decide) rfl (fun ls hl => ?_)
  refine lv_aload_n (pc := 5) hx hb dX3_entails_5 rfl (lv_at hl 1 rfl) ?_
  refine lv_iload_n (pc := 6) hx hb dX3_entails_6 rfl (lv_at hl 2 rfl) ?_
  have hPc := hP.sub (ws' := [(x, .inr (3, [.ref xp, .ref xb, .ref xm])), (xp, .inr (2, [.ref ap, .int (nI pn)])), (ap, .inl (cI, 12, .inl pf)), (xb, .inr (0, [.ref as, .ref ar, .ref am, .int (nI bn)])), (as, .inl (cI, 10, .inl bs)), (ar, .inl (cI, 10, .inl br)), (am, .inl (cI, 1024, .inl mt)), (xm, .inr (1, [.ref al, .ref ak])), (al, .inl (cI, 16, .inl lv)), (ak, .inl (cI, 16, .inl ks))]) [0, 1, 2, 3, 4, 5, 6, 7, 8, 9] rfl
  refine bv_cSv (pc := 7) (va_runV (As := [.int (nI t)]) (rest := []) ⟨hx, hb, hml, hown, hts⟩ (m_X3_requireSet l G cI x xp ap pn xb as ar am bn xm al ak pf bs br mt lv ks t (by first | assumption | omega) (by first | assumption | omega)) (cwV 1 hts gX3_entails_X3_requireSet rfl rfl rfl (by decide +kernel) ⟨Nat.le_of_ble_eq_true rfl, Nat.le_of_ble_eq_true rfl⟩) (bv_pV hE hPc (va_recv hK hP (ci := 3) (q0 := 0) rfl rfl)) rfl rfl hl.1 rfl (lv_room (Nat.le_of_ble_eq_true rfl)) dX3_entails_7 ⟨Nat.le_of_ble_eq_true rfl, Nat.le_of_ble_eq_true rfl⟩) ?_
  refine lv_aload_n (pc := 10) hx hb dX3_entails_10 rfl (lv_at hl 1 rfl) ?_
  refine va_get (pc := 11) (D := G) (ci := 3) (v := .ref xb) (C := RX3) (T := TX3) (N := 3) hx hb hts hw1 hown hK hP 0 rfl rfl 1 (by decide) hw0 (fun _ h9 => h9) rfl dX3_entails_11 ?_
  refine lv_iload_n (pc := 14) hx hb dX3_entails_14 rfl (lv_at hl 2 rfl) ?_
  refine lv_iload_n (pc := 15) hx hb dX3_entails_15 rfl (lv_at hl 0 rfl) ?_
  have hPc := hP.sub (ws' := [(xb, .inr (0, [.ref as, .ref ar, .ref am, .int (nI bn)])), (as, .inl (cI, 10, .inl bs)), (ar, .inl (cI, 10, .inl br)), (am, .inl (cI, 1024, .inl mt))]) [3, 4, 5, 6] rfl
  refine bv_cSi (pc := 16) (E' := (bv_b (bv_de bs bn t (pf (pn - 1))))) (va_runV (As := [.int (nI t), .int (pf (pn - 1))]) (rest := []) ⟨hx, hb, hml, hown, hts⟩ (m_X0_reaches l G cI xb as ar am bn bs br mt t (pf (pn - 1)) hn hM ht) (cwV 2 hts gX3_entails_X0_reaches rfl rfl rfl (by decide +kernel) ⟨Nat.le_of_ble_eq_true rfl, Nat.le_of_ble_eq_true rfl⟩) (bv_pV hE hPc (va_recv hK hP (ci := 0) (q0 := 3) rfl rfl)) rfl rfl hl.1 rfl (lv_room (Nat.le_of_ble_eq_true rfl)) dX3_entails_16 ⟨Nat.le_of_ble_eq_true rfl, Nat.le_of_ble_eq_true rfl⟩) rfl ?_
  exact W.zret (pc := 19) (v := (bv_b (bv_de bs bn t (pf (pn - 1))))) hx hb hr (bv_nz _) (fun T8 hT8 hW8 => ⟨(bv_b (bv_de bs bn t (pf (pn - 1)))), rfl, rfl, hT8⟩) (fun _ h => nomatch h) dX3_entails_19
set_option maxHeartbeats 4000000 in
set_option maxRecDepth 100000 in
theorem m_X3_kernels (l : Launch) (G : va_G) (cI : ClassId) (x xp ap pn xb as ar am bn xm al ak : Nat) (pf bs br mt lv ks : Nat → Int32) (hp : pn ≤ 12) (hn : bn ≤ 10) (hM : ∀ t, t < 2 ^ bn → mt t = bv_wi bs t bn) (h1 : 1 ≤ pn) : Met l yX3_kernels wsX3_kernels ({ frames := 5, cells := 0, slots := 0, locals := 114 }) (bv_P [.ref x] G cI (fun H => va_P G vwCl [(x, .inr (3, [.ref xp, .ref xb, .ref xm])), (xp, .inr (2, [.ref ap, .int (nI pn)])), (ap, .inl (cI, 12, .inl pf)), (xb, .inr (0, [.ref as, .ref ar, .ref am, .int (nI bn)])), (as, .inl (cI, 10, .inl bs)), (ar, .inl (cI, 10, .inl br)), (am, .inl (cI, 1024, .inl mt)), (xm, .inr (1, [.ref al, .ref ak])), (al, .inl (cI, 16, .inl lv)), (ak, .inl (cI, 16, .inl ks))] H)) (vp_Si (fun r9 : Int32 => r9 = (nI (bv_cnt (bv_is true bs bn (pf (pn - 1))) (2 ^ bn))))) 0 0 (fun _ => False) := by
  refine Met.ofW (cc := cX3_kernels) (maxL := 1) (ret := (some .int)) (by decide) rfl ?_
  intro p e s m args below meth c s₁ B hml hv
  obtain ⟨rfl, hP, hE⟩ := hv
  have hx := B.exec
  have hb := B.bytes
  have hr := B.returns
  have hts := atoms_spec (ws := wsX3_kernels) B.pre
  have hown : s.vm.findClass RX3 = some m.cls := findClass_of_methodNamed B.named
  have hlocks := B.notSynchronized
  have hK := hE.1
  have hw0 := hts (.fieldLink RX3 19 "BeliefReviser" "base" "LBeliefReviser$Base;") (List.mem_of_getElem? (i := 1) rfl)
  have hw1 : ∀ w ∈ u_ws RX3 TX3 3, w ∈ wsX3_kernels := by decide +kernel
  have hP : va_P G vwCl [(x, .inr (3, [.ref xp, .ref xb, .ref xm])), (xp, .inr (2, [.ref ap, .int (nI pn)])), (ap, .inl (cI, 12, .inl pf)), (xb, .inr (0, [.ref as, .ref ar, .ref am, .int (nI bn)])), (as, .inl (cI, 10, .inl bs)), (ar, .inl (cI, 10, .inl br)), (am, .inl (cI, 1024, .inl mt)), (xm, .inr (1, [.ref al, .ref ak])), (al, .inl (cI, 16, .inl lv)), (ak, .inl (cI, 16, .inl ks))] s.heap := hP
  have hl := lv_entry ([.ref x]) (n := 1) (Nat.le_of_ble_eq_true rfl)
  rw [lg_entry_eq]
  generalize (lg_sl ([.ref x]) ++ List.replicate (1 - (lg_sl ([.ref x])).length) Slot.unset).toArray = ls at hl ⊢
  have hl : lv_has ls 1 [(0, .ref x)] := hl
  refine lv_aload_n (pc := 0) hx hb dX3_kernels_0 rfl (lv_at hl 0 rfl) ?_
  refine va_get (pc := 1) (D := G) (ci := 3) (v := .ref xb) (C := RX3) (T := TX3) (N := 3) hx hb hts hw1 hown hK hP 0 rfl rfl 1 (by decide) hw0 (fun _ h9 => h9) rfl dX3_kernels_1 ?_
  refine lv_iconst (pc := 4) (v := 1) hx hb dX3_kernels_4 (by decide) ?_
  refine lv_aload_n (pc := 5) hx hb dX3_kernels_5 rfl (lv_at hl 0 rfl) ?_
  have hPc := hP.sub (ws' := [(x, .inr (3, [.ref xp, .ref xb, .ref xm])), (xp, .inr (2, [.ref ap, .int (nI pn)])), (ap, .inl (cI, 12, .inl pf)), (xb, .inr (0, [.ref as, .ref ar, .ref am, .int (nI bn)])), (as, .inl (cI, 10, .inl bs)), (ar, .inl (cI, 10, .inl br)), (am, .inl (cI, 1024, .inl mt)), (xm, .inr (1, [.ref al, .ref ak])), (al, .inl (cI, 16, .inl lv)), (ak, .inl (cI, 16, .inl ks))]) [0, 1, 2, 3, 4, 5, 6, 7, 8, 9] rfl
  refine bv_cSi (pc := 6) (E' := (pf (pn - 1))) (va_runV (As := []) (rest := [.int 1, .ref xb]) ⟨hx, hb, hml, hown, hts⟩ (m_X3_requireTop l G cI x xp ap pn xb as ar am bn xm al ak pf bs br mt lv ks (by first | assumption | omega) (by first | assumption | omega)) (cwV 0 hts gX3_kernels_X3_requireTop rfl rfl rfl (by decide +kernel) ⟨Nat.le_of_ble_eq_true rfl, Nat.le_of_ble_eq_true rfl⟩) (bv_pV hE hPc (va_recv hK hP (ci := 3) (q0 := 0) rfl rfl)) rfl rfl hl.1 rfl (lv_room (Nat.le_of_ble_eq_true rfl)) dX3_kernels_6 ⟨Nat.le_of_ble_eq_true rfl, Nat.le_of_ble_eq_true rfl⟩) rfl ?_
  have hPc := hP.sub (ws' := [(xb, .inr (0, [.ref as, .ref ar, .ref am, .int (nI bn)])), (as, .inl (cI, 10, .inl bs)), (ar, .inl (cI, 10, .inl br)), (am, .inl (cI, 1024, .inl mt))]) [3, 4, 5, 6] rfl
  refine bv_cSi (pc := 9) (E' := (nI (bv_cnt (bv_is true bs bn (pf (pn - 1))) (2 ^ bn)))) (va_runV (As := [.int 1, .int (pf (pn - 1))]) (rest := []) ⟨hx, hb, hml, hown, hts⟩ (m_X0_countFound l G cI xb as ar am bn bs br mt true (pf (pn - 1)) hn hM) (cwV 2 hts gX3_kernels_X0_countFound rfl rfl rfl (by decide +kernel) ⟨Nat.le_of_ble_eq_true rfl, Nat.le_of_ble_eq_true rfl⟩) (bv_pV hE hPc (va_recv hK hP (ci := 0) (q0 := 3) rfl rfl)) rfl rfl hl.1 rfl (lv_room (Nat.le_of_ble_eq_true rfl)) dX3_kernels_9 ⟨Nat.le_of_ble_eq_true rfl, Nat.le_of_ble_eq_true rfl⟩) rfl ?_
  exact W.iret (pc := 12) (v := (nI (bv_cnt (bv_is true bs bn (pf (pn - 1))) (2 ^ bn)))) hx hb hr (fun T8 hT8 hW8 => ⟨(nI (bv_cnt (bv_is true bs bn (pf (pn - 1))) (2 ^ bn))), rfl, rfl, hT8⟩) (fun _ h => nomatch h) dX3_kernels_12
set_option maxHeartbeats 4000000 in
set_option maxRecDepth 100000 in
theorem m_X3_kernel (l : Launch) (G : va_G) (cI : ClassId) (x xp ap pn xb as ar am bn xm al ak : Nat) (pf bs br mt lv ks : Nat → Int32) (i : Int32) (y9 : Nat) (hp : pn ≤ 12) (hn : bn ≤ 10) (hM : ∀ t, t < 2 ^ bn → mt t = bv_wi bs t bn) (h1 : 1 ≤ pn) (hf : bv_fnd (bv_is true bs bn (pf (pn - 1))) i (2 ^ bn) = some y9) : Met l yX3_kernel wsX3_kernel ({ frames := 6, cells := 0, slots := 0, locals := 139 }) (bv_P [.ref x, .int i] G cI (fun H => va_P G vwCl [(x, .inr (3, [.ref xp, .ref xb, .ref xm])), (xp, .inr (2, [.ref ap, .int (nI pn)])), (ap, .inl (cI, 12, .inl pf)), (xb, .inr (0, [.ref as, .ref ar, .ref am, .int (nI bn)])), (as, .inl (cI, 10, .inl bs)), (ar, .inl (cI, 10, .inl br)), (am, .inl (cI, 1024, .inl mt)), (xm, .inr (1, [.ref al, .ref ak])), (al, .inl (cI, 16, .inl lv)), (ak, .inl (cI, 16, .inl ks))] H)) (vp_Si (fun r9 : Int32 => r9 = (nI y9))) 0 0 (fun _ => False) := by
  refine Met.ofW (cc := cX3_kernel) (maxL := 2) (ret := (some .int)) (by decide) rfl ?_
  intro p e s m args below meth c s₁ B hml hv
  obtain ⟨rfl, hP, hE⟩ := hv
  have hx := B.exec
  have hb := B.bytes
  have hr := B.returns
  have hts := atoms_spec (ws := wsX3_kernel) B.pre
  have hown : s.vm.findClass RX3 = some m.cls := findClass_of_methodNamed B.named
  have hlocks := B.notSynchronized
  have hK := hE.1
  have hP : va_P G vwCl [(x, .inr (3, [.ref xp, .ref xb, .ref xm])), (xp, .inr (2, [.ref ap, .int (nI pn)])), (ap, .inl (cI, 12, .inl pf)), (xb, .inr (0, [.ref as, .ref ar, .ref am, .int (nI bn)])), (as, .inl (cI, 10, .inl bs)), (ar, .inl (cI, 10, .inl br)), (am, .inl (cI, 1024, .inl mt)), (xm, .inr (1, [.ref al, .ref ak])), (al, .inl (cI, 16, .inl lv)), (ak, .inl (cI, 16, .inl ks))] s.heap := hP
  have hl := lv_entry ([.ref x, .int i]) (n := 2) (Nat.le_of_ble_eq_true rfl)
  rw [lg_entry_eq]
  generalize (lg_sl ([.ref x, .int i]) ++ List.replicate (2 - (lg_sl ([.ref x, .int i])).length) Slot.unset).toArray = ls at hl ⊢
  have hl : lv_has ls 2 [(0, .ref x), (1, .int i)] := hl
  refine lv_aload_n (pc := 0) hx hb dX3_kernel_0 rfl (lv_at hl 0 rfl) ?_
  refine lv_iconst (pc := 1) (v := 1) hx hb dX3_kernel_1 (by decide) ?_
  refine lv_aload_n (pc := 2) hx hb dX3_kernel_2 rfl (lv_at hl 0 rfl) ?_
  have hPc := hP.sub (ws' := [(x, .inr (3, [.ref xp, .ref xb, .ref xm])), (xp, .inr (2, [.ref ap, .int (nI pn)])), (ap, .inl (cI, 12, .inl pf)), (xb, .inr (0, [.ref as, .ref ar, .ref am, .int (nI bn)])), (as, .inl (cI, 10, .inl bs)), (ar, .inl (cI, 10, .inl br)), (am, .inl (cI, 1024, .inl mt)), (xm, .inr (1, [.ref al, .ref ak])), (al, .inl (cI, 16, .inl lv)), (ak, .inl (cI, 16, .inl ks))]) [0, 1, 2, 3, 4, 5, 6, 7, 8, 9] rfl
  refine bv_cSi (pc := 3) (E' := (pf (pn - 1))) (va_runV (As := []) (rest := [.int 1, .ref x]) ⟨hx, hb, hml, hown, hts⟩ (m_X3_requireTop l G cI x xp ap pn xb as ar am bn xm al ak pf bs br mt lv ks (by first | assumption | omega) (by first | assumption | omega)) (cwV 0 hts gX3_kernel_X3_requireTop rfl rfl rfl (by decide +kernel) ⟨Nat.le_of_ble_eq_true rfl, Nat.le_of_ble_eq_true rfl⟩) (bv_pV hE hPc (va_recv hK hP (ci := 3) (q0 := 0) rfl rfl)) rfl rfl hl.1 rfl (lv_room (Nat.le_of_ble_eq_true rfl)) dX3_kernel_3 ⟨Nat.le_of_ble_eq_true rfl, Nat.le_of_ble_eq_true rfl⟩) rfl ?_
  refine lv_iload_n (pc := 6) hx hb dX3_kernel_6 rfl (lv_at hl 1 rfl) ?_
  have hPc := hP.sub (ws' := [(x, .inr (3, [.ref xp, .ref xb, .ref xm])), (xp, .inr (2, [.ref ap, .int (nI pn)])), (ap, .inl (cI, 12, .inl pf)), (xb, .inr (0, [.ref as, .ref ar, .ref am, .int (nI bn)])), (as, .inl (cI, 10, .inl bs)), (ar, .inl (cI, 10, .inl br)), (am, .inl (cI, 1024, .inl mt)), (xm, .inr (1, [.ref al, .ref ak])), (al, .inl (cI, 16, .inl lv)), (ak, .inl (cI, 16, .inl ks))]) [0, 1, 2, 3, 4, 5, 6, 7, 8, 9] rfl
  refine bv_cSi (pc := 7) (E' := (nI y9)) (va_runV (As := [.int 1, .int (pf (pn - 1)), .int i]) (rest := []) ⟨hx, hb, hml, hown, hts⟩ (m_X3_requireFound l G cI x xp ap pn xb as ar am bn xm al ak pf bs br mt lv ks true (pf (pn - 1)) i y9 hn hM hf) (cwV 3 hts gX3_kernel_X3_requireFound rfl rfl rfl (by decide +kernel) ⟨Nat.le_of_ble_eq_true rfl, Nat.le_of_ble_eq_true rfl⟩) (bv_pV hE hPc (va_recv hK hP (ci := 3) (q0 := 0) rfl rfl)) rfl rfl hl.1 rfl (lv_room (Nat.le_of_ble_eq_true rfl)) dX3_kernel_7 ⟨Nat.le_of_ble_eq_true rfl, Nat.le_of_ble_eq_true rfl⟩) rfl ?_
  exact W.iret (pc := 10) (v := (nI y9)) hx hb hr (fun T8 hT8 hW8 => ⟨(nI y9), rfl, rfl, hT8⟩) (fun _ h => nomatch h) dX3_kernel_10
set_option maxHeartbeats 4000000 in
set_option maxRecDepth 100000 in
theorem m_X3_remainders (l : Launch) (G : va_G) (cI : ClassId) (x xp ap pn xb as ar am bn xm al ak : Nat) (pf bs br mt lv ks : Nat → Int32) (hp : pn ≤ 12) (hn : bn ≤ 10) (hM : ∀ t, t < 2 ^ bn → mt t = bv_wi bs t bn) (h1 : 1 ≤ pn) : Met l yX3_remainders wsX3_remainders ({ frames := 5, cells := 0, slots := 0, locals := 114 }) (bv_P [.ref x] G cI (fun H => va_P G vwCl [(x, .inr (3, [.ref xp, .ref xb, .ref xm])), (xp, .inr (2, [.ref ap, .int (nI pn)])), (ap, .inl (cI, 12, .inl pf)), (xb, .inr (0, [.ref as, .ref ar, .ref am, .int (nI bn)])), (as, .inl (cI, 10, .inl bs)), (ar, .inl (cI, 10, .inl br)), (am, .inl (cI, 1024, .inl mt)), (xm, .inr (1, [.ref al, .ref ak])), (al, .inl (cI, 16, .inl lv)), (ak, .inl (cI, 16, .inl ks))] H)) (vp_Si (fun r9 : Int32 => r9 = (nI (bv_cnt (bv_is false bs bn (pf (pn - 1))) (2 ^ bn))))) 0 0 (fun _ => False) := by
  refine Met.ofW (cc := cX3_remainders) (maxL := 1) (ret := (some .int)) (by decide) rfl ?_
  intro p e s m args below meth c s₁ B hml hv
  obtain ⟨rfl, hP, hE⟩ := hv
  have hx := B.exec
  have hb := B.bytes
  have hr := B.returns
  have hts := atoms_spec (ws := wsX3_remainders) B.pre
  have hown : s.vm.findClass RX3 = some m.cls := findClass_of_methodNamed B.named
  have hlocks := B.notSynchronized
  have hK := hE.1
  have hw0 := hts (.fieldLink RX3 19 "BeliefReviser" "base" "LBeliefReviser$Base;") (List.mem_of_getElem? (i := 1) rfl)
  have hw1 : ∀ w ∈ u_ws RX3 TX3 3, w ∈ wsX3_remainders := by decide +kernel
  have hP : va_P G vwCl [(x, .inr (3, [.ref xp, .ref xb, .ref xm])), (xp, .inr (2, [.ref ap, .int (nI pn)])), (ap, .inl (cI, 12, .inl pf)), (xb, .inr (0, [.ref as, .ref ar, .ref am, .int (nI bn)])), (as, .inl (cI, 10, .inl bs)), (ar, .inl (cI, 10, .inl br)), (am, .inl (cI, 1024, .inl mt)), (xm, .inr (1, [.ref al, .ref ak])), (al, .inl (cI, 16, .inl lv)), (ak, .inl (cI, 16, .inl ks))] s.heap := hP
  have hl := lv_entry ([.ref x]) (n := 1) (Nat.le_of_ble_eq_true rfl)
  rw [lg_entry_eq]
  generalize (lg_sl ([.ref x]) ++ List.replicate (1 - (lg_sl ([.ref x])).length) Slot.unset).toArray = ls at hl ⊢
  have hl : lv_has ls 1 [(0, .ref x)] := hl
  refine lv_aload_n (pc := 0) hx hb dX3_remainders_0 rfl (lv_at hl 0 rfl) ?_
  refine va_get (pc := 1) (D := G) (ci := 3) (v := .ref xb) (C := RX3) (T := TX3) (N := 3) hx hb hts hw1 hown hK hP 0 rfl rfl 1 (by decide) hw0 (fun _ h9 => h9) rfl dX3_remainders_1 ?_
  refine lv_iconst (pc := 4) (v := 0) hx hb dX3_remainders_4 (by decide) ?_
  refine lv_aload_n (pc := 5) hx hb dX3_remainders_5 rfl (lv_at hl 0 rfl) ?_
  have hPc := hP.sub (ws' := [(x, .inr (3, [.ref xp, .ref xb, .ref xm])), (xp, .inr (2, [.ref ap, .int (nI pn)])), (ap, .inl (cI, 12, .inl pf)), (xb, .inr (0, [.ref as, .ref ar, .ref am, .int (nI bn)])), (as, .inl (cI, 10, .inl bs)), (ar, .inl (cI, 10, .inl br)), (am, .inl (cI, 1024, .inl mt)), (xm, .inr (1, [.ref al, .ref ak])), (al, .inl (cI, 16, .inl lv)), (ak, .inl (cI, 16, .inl ks))]) [0, 1, 2, 3, 4, 5, 6, 7, 8, 9] rfl
  refine bv_cSi (pc := 6) (E' := (pf (pn - 1))) (va_runV (As := []) (rest := [.int 0, .ref xb]) ⟨hx, hb, hml, hown, hts⟩ (m_X3_requireTop l G cI x xp ap pn xb as ar am bn xm al ak pf bs br mt lv ks (by first | assumption | omega) (by first | assumption | omega)) (cwV 0 hts gX3_remainders_X3_requireTop rfl rfl rfl (by decide +kernel) ⟨Nat.le_of_ble_eq_true rfl, Nat.le_of_ble_eq_true rfl⟩) (bv_pV hE hPc (va_recv hK hP (ci := 3) (q0 := 0) rfl rfl)) rfl rfl hl.1 rfl (lv_room (Nat.le_of_ble_eq_true rfl)) dX3_remainders_6 ⟨Nat.le_of_ble_eq_true rfl, Nat.le_of_ble_eq_true rfl⟩) rfl ?_
  have hPc := hP.sub (ws' := [(xb, .inr (0, [.ref as, .ref ar, .ref am, .int (nI bn)])), (as, .inl (cI, 10, .inl bs)), (ar, .inl (cI, 10, .inl br)), (am, .inl (cI, 1024, .inl mt))]) [3, 4, 5, 6] rfl
  refine bv_cSi (pc := 9) (E' := (nI (bv_cnt (bv_is false bs bn (pf (pn - 1))) (2 ^ bn)))) (va_runV (As := [.int 0, .int (pf (pn - 1))]) (rest := []) ⟨hx, hb, hml, hown, hts⟩ (m_X0_countFound l G cI xb as ar am bn bs br mt false (pf (pn - 1)) hn hM) (cwV 2 hts gX3_remainders_X0_countFound rfl rfl rfl (by decide +kernel) ⟨Nat.le_of_ble_eq_true rfl, Nat.le_of_ble_eq_true rfl⟩) (bv_pV hE hPc (va_recv hK hP (ci := 0) (q0 := 3) rfl rfl)) rfl rfl hl.1 rfl (lv_room (Nat.le_of_ble_eq_true rfl)) dX3_remainders_9 ⟨Nat.le_of_ble_eq_true rfl, Nat.le_of_ble_eq_true rfl⟩) rfl ?_
  exact W.iret (pc := 12) (v := (nI (bv_cnt (bv_is false bs bn (pf (pn - 1))) (2 ^ bn)))) hx hb hr (fun T8 hT8 hW8 => ⟨(nI (bv_cnt (bv_is false bs bn (pf (pn - 1))) (2 ^ bn))), rfl, rfl, hT8⟩) (fun _ h => nomatch h) dX3_remainders_12
set_option maxHeartbeats 4000000 in
set_option maxRecDepth 100000 in
theorem m_X3_remainder (l : Launch) (G : va_G) (cI : ClassId) (x xp ap pn xb as ar am bn xm al ak : Nat) (pf bs br mt lv ks : Nat → Int32) (i : Int32) (y9 : Nat) (hp : pn ≤ 12) (hn : bn ≤ 10) (hM : ∀ t, t < 2 ^ bn → mt t = bv_wi bs t bn) (h1 : 1 ≤ pn) (hf : bv_fnd (bv_is false bs bn (pf (pn - 1))) i (2 ^ bn) = some y9) : Met l yX3_remainder wsX3_remainder ({ frames := 6, cells := 0, slots := 0, locals := 139 }) (bv_P [.ref x, .int i] G cI (fun H => va_P G vwCl [(x, .inr (3, [.ref xp, .ref xb, .ref xm])), (xp, .inr (2, [.ref ap, .int (nI pn)])), (ap, .inl (cI, 12, .inl pf)), (xb, .inr (0, [.ref as, .ref ar, .ref am, .int (nI bn)])), (as, .inl (cI, 10, .inl bs)), (ar, .inl (cI, 10, .inl br)), (am, .inl (cI, 1024, .inl mt)), (xm, .inr (1, [.ref al, .ref ak])), (al, .inl (cI, 16, .inl lv)), (ak, .inl (cI, 16, .inl ks))] H)) (vp_Si (fun r9 : Int32 => r9 = (nI y9))) 0 0 (fun _ => False) := by
  refine Met.ofW (cc := cX3_remainder) (maxL := 2) (ret := (some .int)) (by decide) rfl ?_
  intro p e s m args below meth c s₁ B hml hv
  obtain ⟨rfl, hP, hE⟩ := hv
  have hx := B.exec
  have hb := B.bytes
  have hr := B.returns
  have hts := atoms_spec (ws := wsX3_remainder) B.pre
  have hown : s.vm.findClass RX3 = some m.cls := findClass_of_methodNamed B.named
  have hlocks := B.notSynchronized
  have hK := hE.1
  have hP : va_P G vwCl [(x, .inr (3, [.ref xp, .ref xb, .ref xm])), (xp, .inr (2, [.ref ap, .int (nI pn)])), (ap, .inl (cI, 12, .inl pf)), (xb, .inr (0, [.ref as, .ref ar, .ref am, .int (nI bn)])), (as, .inl (cI, 10, .inl bs)), (ar, .inl (cI, 10, .inl br)), (am, .inl (cI, 1024, .inl mt)), (xm, .inr (1, [.ref al, .ref ak])), (al, .inl (cI, 16, .inl lv)), (ak, .inl (cI, 16, .inl ks))] s.heap := hP
  have hl := lv_entry ([.ref x, .int i]) (n := 2) (Nat.le_of_ble_eq_true rfl)
  rw [lg_entry_eq]
  generalize (lg_sl ([.ref x, .int i]) ++ List.replicate (2 - (lg_sl ([.ref x, .int i])).length) Slot.unset).toArray = ls at hl ⊢
  have hl : lv_has ls 2 [(0, .ref x), (1, .int i)] := hl
  refine lv_aload_n (pc := 0) hx hb dX3_remainder_0 rfl (lv_at hl 0 rfl) ?_
  refine lv_iconst (pc := 1) (v := 0) hx hb dX3_remainder_1 (by decide) ?_
  refine lv_aload_n (pc := 2) hx hb dX3_remainder_2 rfl (lv_at hl 0 rfl) ?_
  have hPc := hP.sub (ws' := [(x, .inr (3, [.ref xp, .ref xb, .ref xm])), (xp, .inr (2, [.ref ap, .int (nI pn)])), (ap, .inl (cI, 12, .inl pf)), (xb, .inr (0, [.ref as, .ref ar, .ref am, .int (nI bn)])), (as, .inl (cI, 10, .inl bs)), (ar, .inl (cI, 10, .inl br)), (am, .inl (cI, 1024, .inl mt)), (xm, .inr (1, [.ref al, .ref ak])), (al, .inl (cI, 16, .inl lv)), (ak, .inl (cI, 16, .inl ks))]) [0, 1, 2, 3, 4, 5, 6, 7, 8, 9] rfl
  refine bv_cSi (pc := 3) (E' := (pf (pn - 1))) (va_runV (As := []) (rest := [.int 0, .ref x]) ⟨hx, hb, hml, hown, hts⟩ (m_X3_requireTop l G cI x xp ap pn xb as ar am bn xm al ak pf bs br mt lv ks (by first | assumption | omega) (by first | assumption | omega)) (cwV 0 hts gX3_remainder_X3_requireTop rfl rfl rfl (by decide +kernel) ⟨Nat.le_of_ble_eq_true rfl, Nat.le_of_ble_eq_true rfl⟩) (bv_pV hE hPc (va_recv hK hP (ci := 3) (q0 := 0) rfl rfl)) rfl rfl hl.1 rfl (lv_room (Nat.le_of_ble_eq_true rfl)) dX3_remainder_3 ⟨Nat.le_of_ble_eq_true rfl, Nat.le_of_ble_eq_true rfl⟩) rfl ?_
  refine lv_iload_n (pc := 6) hx hb dX3_remainder_6 rfl (lv_at hl 1 rfl) ?_
  have hPc := hP.sub (ws' := [(x, .inr (3, [.ref xp, .ref xb, .ref xm])), (xp, .inr (2, [.ref ap, .int (nI pn)])), (ap, .inl (cI, 12, .inl pf)), (xb, .inr (0, [.ref as, .ref ar, .ref am, .int (nI bn)])), (as, .inl (cI, 10, .inl bs)), (ar, .inl (cI, 10, .inl br)), (am, .inl (cI, 1024, .inl mt)), (xm, .inr (1, [.ref al, .ref ak])), (al, .inl (cI, 16, .inl lv)), (ak, .inl (cI, 16, .inl ks))]) [0, 1, 2, 3, 4, 5, 6, 7, 8, 9] rfl
  refine bv_cSi (pc := 7) (E' := (nI y9)) (va_runV (As := [.int 0, .int (pf (pn - 1)), .int i]) (rest := []) ⟨hx, hb, hml, hown, hts⟩ (m_X3_requireFound l G cI x xp ap pn xb as ar am bn xm al ak pf bs br mt lv ks false (pf (pn - 1)) i y9 hn hM hf) (cwV 3 hts gX3_remainder_X3_requireFound rfl rfl rfl (by decide +kernel) ⟨Nat.le_of_ble_eq_true rfl, Nat.le_of_ble_eq_true rfl⟩) (bv_pV hE hPc (va_recv hK hP (ci := 3) (q0 := 0) rfl rfl)) rfl rfl hl.1 rfl (lv_room (Nat.le_of_ble_eq_true rfl)) dX3_remainder_7 ⟨Nat.le_of_ble_eq_true rfl, Nat.le_of_ble_eq_true rfl⟩) rfl ?_
  exact W.iret (pc := 10) (v := (nI y9)) hx hb hr (fun T8 hT8 hW8 => ⟨(nI y9), rfl, rfl, hT8⟩) (fun _ h => nomatch h) dX3_remainder_10
set_option maxHeartbeats 4000000 in
set_option maxRecDepth 100000 in
theorem m_X3_bestRemainder (l : Launch) (G : va_G) (cI : ClassId) (x xp ap pn xb as ar am bn xm al ak : Nat) (pf bs br mt lv ks : Nat → Int32) (hp : pn ≤ 12) (hn : bn ≤ 10) (hM : ∀ t, t < 2 ^ bn → mt t = bv_wi bs t bn) (h1 : 1 ≤ pn) : Met l yX3_bestRemainder wsX3_bestRemainder ({ frames := 4, cells := 0, slots := 0, locals := 90 }) (bv_P [.ref x] G cI (fun H => va_P G vwCl [(x, .inr (3, [.ref xp, .ref xb, .ref xm])), (xp, .inr (2, [.ref ap, .int (nI pn)])), (ap, .inl (cI, 12, .inl pf)), (xb, .inr (0, [.ref as, .ref ar, .ref am, .int (nI bn)])), (as, .inl (cI, 10, .inl bs)), (ar, .inl (cI, 10, .inl br)), (am, .inl (cI, 1024, .inl mt)), (xm, .inr (1, [.ref al, .ref ak])), (al, .inl (cI, 16, .inl lv)), (ak, .inl (cI, 16, .inl ks))] H)) (vp_Si (fun r9 : Int32 => r9 = (bv_oI (bv_best (bv_ir bs bn (pf (pn - 1))) (bv_heavy br bn) (2 ^ bn))))) 0 0 (fun _ => False) := by
  refine Met.ofW (cc := cX3_bestRemainder) (maxL := 1) (ret := (some .int)) (by decide) rfl ?_
  intro p e s m args below meth c s₁ B hml hv
  obtain ⟨rfl, hP, hE⟩ := hv
  have hx := B.exec
  have hb := B.bytes
  have hr := B.returns
  have hts := atoms_spec (ws := wsX3_bestRemainder) B.pre
  have hown : s.vm.findClass RX3 = some m.cls := findClass_of_methodNamed B.named
  have hlocks := B.notSynchronized
  have hK := hE.1
  have hw0 := hts (.fieldLink RX3 19 "BeliefReviser" "base" "LBeliefReviser$Base;") (List.mem_of_getElem? (i := 1) rfl)
  have hw1 : ∀ w ∈ u_ws RX3 TX3 3, w ∈ wsX3_bestRemainder := by decide +kernel
  have hP : va_P G vwCl [(x, .inr (3, [.ref xp, .ref xb, .ref xm])), (xp, .inr (2, [.ref ap, .int (nI pn)])), (ap, .inl (cI, 12, .inl pf)), (xb, .inr (0, [.ref as, .ref ar, .ref am, .int (nI bn)])), (as, .inl (cI, 10, .inl bs)), (ar, .inl (cI, 10, .inl br)), (am, .inl (cI, 1024, .inl mt)), (xm, .inr (1, [.ref al, .ref ak])), (al, .inl (cI, 16, .inl lv)), (ak, .inl (cI, 16, .inl ks))] s.heap := hP
  have hl := lv_entry ([.ref x]) (n := 1) (Nat.le_of_ble_eq_true rfl)
  rw [lg_entry_eq]
  generalize (lg_sl ([.ref x]) ++ List.replicate (1 - (lg_sl ([.ref x])).length) Slot.unset).toArray = ls at hl ⊢
  have hl : lv_has ls 1 [(0, .ref x)] := hl
  refine lv_aload_n (pc := 0) hx hb dX3_bestRemainder_0 rfl (lv_at hl 0 rfl) ?_
  refine va_get (pc := 1) (D := G) (ci := 3) (v := .ref xb) (C := RX3) (T := TX3) (N := 3) hx hb hts hw1 hown hK hP 0 rfl rfl 1 (by decide) hw0 (fun _ h9 => h9) rfl dX3_bestRemainder_1 ?_
  refine lv_aload_n (pc := 4) hx hb dX3_bestRemainder_4 rfl (lv_at hl 0 rfl) ?_
  have hPc := hP.sub (ws' := [(x, .inr (3, [.ref xp, .ref xb, .ref xm])), (xp, .inr (2, [.ref ap, .int (nI pn)])), (ap, .inl (cI, 12, .inl pf)), (xb, .inr (0, [.ref as, .ref ar, .ref am, .int (nI bn)])), (as, .inl (cI, 10, .inl bs)), (ar, .inl (cI, 10, .inl br)), (am, .inl (cI, 1024, .inl mt)), (xm, .inr (1, [.ref al, .ref ak])), (al, .inl (cI, 16, .inl lv)), (ak, .inl (cI, 16, .inl ks))]) [0, 1, 2, 3, 4, 5, 6, 7, 8, 9] rfl
  refine bv_cSi (pc := 5) (E' := (pf (pn - 1))) (va_runV (As := []) (rest := [.ref xb]) ⟨hx, hb, hml, hown, hts⟩ (m_X3_requireTop l G cI x xp ap pn xb as ar am bn xm al ak pf bs br mt lv ks (by first | assumption | omega) (by first | assumption | omega)) (cwV 0 hts gX3_bestRemainder_X3_requireTop rfl rfl rfl (by decide +kernel) ⟨Nat.le_of_ble_eq_true rfl, Nat.le_of_ble_eq_true rfl⟩) (bv_pV hE hPc (va_recv hK hP (ci := 3) (q0 := 0) rfl rfl)) rfl rfl hl.1 rfl (lv_room (Nat.le_of_ble_eq_true rfl)) dX3_bestRemainder_5 ⟨Nat.le_of_ble_eq_true rfl, Nat.le_of_ble_eq_true rfl⟩) rfl ?_
  have hPc := hP.sub (ws' := [(xb, .inr (0, [.ref as, .ref ar, .ref am, .int (nI bn)])), (as, .inl (cI, 10, .inl bs)), (ar, .inl (cI, 10, .inl br)), (am, .inl (cI, 1024, .inl mt))]) [3, 4, 5, 6] rfl
  refine bv_cSi (pc := 8) (E' := (bv_oI (bv_best (bv_ir bs bn (pf (pn - 1))) (bv_heavy br bn) (2 ^ bn)))) (va_runV (As := [.int (pf (pn - 1))]) (rest := []) ⟨hx, hb, hml, hown, hts⟩ (m_X0_heaviestRemainder l G cI xb as ar am bn bs br mt (pf (pn - 1)) hn hM) (cwV 1 hts gX3_bestRemainder_X0_heaviestRemainder rfl rfl rfl (by decide +kernel) ⟨Nat.le_of_ble_eq_true rfl, Nat.le_of_ble_eq_true rfl⟩) (bv_pV hE hPc (va_recv hK hP (ci := 0) (q0 := 3) rfl rfl)) rfl rfl hl.1 rfl (lv_room (Nat.le_of_ble_eq_true rfl)) dX3_bestRemainder_8 ⟨Nat.le_of_ble_eq_true rfl, Nat.le_of_ble_eq_true rfl⟩) rfl ?_
  exact W.iret (pc := 11) (v := (bv_oI (bv_best (bv_ir bs bn (pf (pn - 1))) (bv_heavy br bn) (2 ^ bn)))) hx hb hr (fun T8 hT8 hW8 => ⟨(bv_oI (bv_best (bv_ir bs bn (pf (pn - 1))) (bv_heavy br bn) (2 ^ bn))), rfl, rfl, hT8⟩) (fun _ h => nomatch h) dX3_bestRemainder_11
set_option maxHeartbeats 4000000 in
set_option maxRecDepth 100000 in
theorem m_X3_cut (l : Launch) (G : va_G) (cI : ClassId) (x xp ap pn xb as ar am bn xm al ak : Nat) (pf bs br mt lv ks : Nat → Int32) (hp : pn ≤ 12) (hn : bn ≤ 10) (hM : ∀ t, t < 2 ^ bn → mt t = bv_wi bs t bn) (h1 : 1 ≤ pn) : Met l yX3_cut wsX3_cut ({ frames := 5, cells := 0, slots := 0, locals := 112 }) (bv_P [.ref x] G cI (fun H => va_P G vwCl [(x, .inr (3, [.ref xp, .ref xb, .ref xm])), (xp, .inr (2, [.ref ap, .int (nI pn)])), (ap, .inl (cI, 12, .inl pf)), (xb, .inr (0, [.ref as, .ref ar, .ref am, .int (nI bn)])), (as, .inl (cI, 10, .inl bs)), (ar, .inl (cI, 10, .inl br)), (am, .inl (cI, 1024, .inl mt)), (xm, .inr (1, [.ref al, .ref ak])), (al, .inl (cI, 16, .inl lv)), (ak, .inl (cI, 16, .inl ks))] H)) (vp_Si (fun r9 : Int32 => r9 = (bv_cut (bv_ik bs bn (pf (pn - 1))) (bv_lr br bn) (2 ^ bn)))) 0 0 (fun _ => False) := by
  refine Met.ofW (cc := cX3_cut) (maxL := 1) (ret := (some .int)) (by decide) rfl ?_
  intro p e s m args below meth c s₁ B hml hv
  obtain ⟨rfl, hP, hE⟩ := hv
  have hx := B.exec
  have hb := B.bytes
  have hr := B.returns
  have hts := atoms_spec (ws := wsX3_cut) B.pre
  have hown : s.vm.findClass RX3 = some m.cls := findClass_of_methodNamed B.named
  have hlocks := B.notSynchronized
  have hK := hE.1
  have hw0 := hts (.fieldLink RX3 19 "BeliefReviser" "base" "LBeliefReviser$Base;") (List.mem_of_getElem? (i := 1) rfl)
  have hw1 : ∀ w ∈ u_ws RX3 TX3 3, w ∈ wsX3_cut := by decide +kernel
  have hP : va_P G vwCl [(x, .inr (3, [.ref xp, .ref xb, .ref xm])), (xp, .inr (2, [.ref ap, .int (nI pn)])), (ap, .inl (cI, 12, .inl pf)), (xb, .inr (0, [.ref as, .ref ar, .ref am, .int (nI bn)])), (as, .inl (cI, 10, .inl bs)), (ar, .inl (cI, 10, .inl br)), (am, .inl (cI, 1024, .inl mt)), (xm, .inr (1, [.ref al, .ref ak])), (al, .inl (cI, 16, .inl lv)), (ak, .inl (cI, 16, .inl ks))] s.heap := hP
  have hl := lv_entry ([.ref x]) (n := 1) (Nat.le_of_ble_eq_true rfl)
  rw [lg_entry_eq]
  generalize (lg_sl ([.ref x]) ++ List.replicate (1 - (lg_sl ([.ref x])).length) Slot.unset).toArray = ls at hl ⊢
  have hl : lv_has ls 1 [(0, .ref x)] := hl
  refine lv_aload_n (pc := 0) hx hb dX3_cut_0 rfl (lv_at hl 0 rfl) ?_
  refine va_get (pc := 1) (D := G) (ci := 3) (v := .ref xb) (C := RX3) (T := TX3) (N := 3) hx hb hts hw1 hown hK hP 0 rfl rfl 1 (by decide) hw0 (fun _ h9 => h9) rfl dX3_cut_1 ?_
  refine lv_aload_n (pc := 4) hx hb dX3_cut_4 rfl (lv_at hl 0 rfl) ?_
  have hPc := hP.sub (ws' := [(x, .inr (3, [.ref xp, .ref xb, .ref xm])), (xp, .inr (2, [.ref ap, .int (nI pn)])), (ap, .inl (cI, 12, .inl pf)), (xb, .inr (0, [.ref as, .ref ar, .ref am, .int (nI bn)])), (as, .inl (cI, 10, .inl bs)), (ar, .inl (cI, 10, .inl br)), (am, .inl (cI, 1024, .inl mt)), (xm, .inr (1, [.ref al, .ref ak])), (al, .inl (cI, 16, .inl lv)), (ak, .inl (cI, 16, .inl ks))]) [0, 1, 2, 3, 4, 5, 6, 7, 8, 9] rfl
  refine bv_cSi (pc := 5) (E' := (pf (pn - 1))) (va_runV (As := []) (rest := [.ref xb]) ⟨hx, hb, hml, hown, hts⟩ (m_X3_requireTop l G cI x xp ap pn xb as ar am bn xm al ak pf bs br mt lv ks (by first | assumption | omega) (by first | assumption | omega)) (cwV 0 hts gX3_cut_X3_requireTop rfl rfl rfl (by decide +kernel) ⟨Nat.le_of_ble_eq_true rfl, Nat.le_of_ble_eq_true rfl⟩) (bv_pV hE hPc (va_recv hK hP (ci := 3) (q0 := 0) rfl rfl)) rfl rfl hl.1 rfl (lv_room (Nat.le_of_ble_eq_true rfl)) dX3_cut_5 ⟨Nat.le_of_ble_eq_true rfl, Nat.le_of_ble_eq_true rfl⟩) rfl ?_
  have hPc := hP.sub (ws' := [(xb, .inr (0, [.ref as, .ref ar, .ref am, .int (nI bn)])), (as, .inl (cI, 10, .inl bs)), (ar, .inl (cI, 10, .inl br)), (am, .inl (cI, 1024, .inl mt))]) [3, 4, 5, 6] rfl
  refine bv_cSi (pc := 8) (E' := (bv_cut (bv_ik bs bn (pf (pn - 1))) (bv_lr br bn) (2 ^ bn))) (va_runV (As := [.int (pf (pn - 1))]) (rest := []) ⟨hx, hb, hml, hown, hts⟩ (m_X0_cutFor l G cI xb as ar am bn bs br mt (pf (pn - 1)) hn hM) (cwV 1 hts gX3_cut_X0_cutFor rfl rfl rfl (by decide +kernel) ⟨Nat.le_of_ble_eq_true rfl, Nat.le_of_ble_eq_true rfl⟩) (bv_pV hE hPc (va_recv hK hP (ci := 0) (q0 := 3) rfl rfl)) rfl rfl hl.1 rfl (lv_room (Nat.le_of_ble_eq_true rfl)) dX3_cut_8 ⟨Nat.le_of_ble_eq_true rfl, Nat.le_of_ble_eq_true rfl⟩) rfl ?_
  exact W.iret (pc := 11) (v := (bv_cut (bv_ik bs bn (pf (pn - 1))) (bv_lr br bn) (2 ^ bn))) hx hb hr (fun T8 hT8 hW8 => ⟨(bv_cut (bv_ik bs bn (pf (pn - 1))) (bv_lr br bn) (2 ^ bn)), rfl, rfl, hT8⟩) (fun _ h => nomatch h) dX3_cut_11
set_option maxHeartbeats 4000000 in
set_option maxRecDepth 100000 in
theorem m_X3_degree (l : Launch) (G : va_G) (cI : ClassId) (x xp ap pn xb as ar am bn xm al ak : Nat) (pf bs br mt lv ks : Nat → Int32) (hp : pn ≤ 12) (hn : bn ≤ 10) (hM : ∀ t, t < 2 ^ bn → mt t = bv_wi bs t bn) (h1 : 1 ≤ pn) : Met l yX3_degree wsX3_degree ({ frames := 4, cells := 0, slots := 0, locals := 87 }) (bv_P [.ref x] G cI (fun H => va_P G vwCl [(x, .inr (3, [.ref xp, .ref xb, .ref xm])), (xp, .inr (2, [.ref ap, .int (nI pn)])), (ap, .inl (cI, 12, .inl pf)), (xb, .inr (0, [.ref as, .ref ar, .ref am, .int (nI bn)])), (as, .inl (cI, 10, .inl bs)), (ar, .inl (cI, 10, .inl br)), (am, .inl (cI, 1024, .inl mt)), (xm, .inr (1, [.ref al, .ref ak])), (al, .inl (cI, 16, .inl lv)), (ak, .inl (cI, 16, .inl ks))] H)) (vp_Si (fun r9 : Int32 => r9 = (nI (bv_degn bs br bn (pf (pn - 1)))))) 0 0 (fun _ => False) := by
  refine Met.ofW (cc := cX3_degree) (maxL := 1) (ret := (some .int)) (by decide) rfl ?_
  intro p e s m args below meth c s₁ B hml hv
  obtain ⟨rfl, hP, hE⟩ := hv
  have hx := B.exec
  have hb := B.bytes
  have hr := B.returns
  have hts := atoms_spec (ws := wsX3_degree) B.pre
  have hown : s.vm.findClass RX3 = some m.cls := findClass_of_methodNamed B.named
  have hlocks := B.notSynchronized
  have hK := hE.1
  have hw0 := hts (.fieldLink RX3 19 "BeliefReviser" "base" "LBeliefReviser$Base;") (List.mem_of_getElem? (i := 1) rfl)
  have hw1 : ∀ w ∈ u_ws RX3 TX3 3, w ∈ wsX3_degree := by decide +kernel
  have hP : va_P G vwCl [(x, .inr (3, [.ref xp, .ref xb, .ref xm])), (xp, .inr (2, [.ref ap, .int (nI pn)])), (ap, .inl (cI, 12, .inl pf)), (xb, .inr (0, [.ref as, .ref ar, .ref am, .int (nI bn)])), (as, .inl (cI, 10, .inl bs)), (ar, .inl (cI, 10, .inl br)), (am, .inl (cI, 1024, .inl mt)), (xm, .inr (1, [.ref al, .ref ak])), (al, .inl (cI, 16, .inl lv)), (ak, .inl (cI, 16, .inl ks))] s.heap := hP
  have hl := lv_entry ([.ref x]) (n := 1) (Nat.le_of_ble_eq_true rfl)
  rw [lg_entry_eq]
  generalize (lg_sl ([.ref x]) ++ List.replicate (1 - (lg_sl ([.ref x])).length) Slot.unset).toArray = ls at hl ⊢
  have hl : lv_has ls 1 [(0, .ref x)] := hl
  refine lv_aload_n (pc := 0) hx hb dX3_degree_0 rfl (lv_at hl 0 rfl) ?_
  refine va_get (pc := 1) (D := G) (ci := 3) (v := .ref xb) (C := RX3) (T := TX3) (N := 3) hx hb hts hw1 hown hK hP 0 rfl rfl 1 (by decide) hw0 (fun _ h9 => h9) rfl dX3_degree_1 ?_
  refine lv_aload_n (pc := 4) hx hb dX3_degree_4 rfl (lv_at hl 0 rfl) ?_
  have hPc := hP.sub (ws' := [(x, .inr (3, [.ref xp, .ref xb, .ref xm])), (xp, .inr (2, [.ref ap, .int (nI pn)])), (ap, .inl (cI, 12, .inl pf)), (xb, .inr (0, [.ref as, .ref ar, .ref am, .int (nI bn)])), (as, .inl (cI, 10, .inl bs)), (ar, .inl (cI, 10, .inl br)), (am, .inl (cI, 1024, .inl mt)), (xm, .inr (1, [.ref al, .ref ak])), (al, .inl (cI, 16, .inl lv)), (ak, .inl (cI, 16, .inl ks))]) [0, 1, 2, 3, 4, 5, 6, 7, 8, 9] rfl
  refine bv_cSi (pc := 5) (E' := (pf (pn - 1))) (va_runV (As := []) (rest := [.ref xb]) ⟨hx, hb, hml, hown, hts⟩ (m_X3_requireTop l G cI x xp ap pn xb as ar am bn xm al ak pf bs br mt lv ks (by first | assumption | omega) (by first | assumption | omega)) (cwV 0 hts gX3_degree_X3_requireTop rfl rfl rfl (by decide +kernel) ⟨Nat.le_of_ble_eq_true rfl, Nat.le_of_ble_eq_true rfl⟩) (bv_pV hE hPc (va_recv hK hP (ci := 3) (q0 := 0) rfl rfl)) rfl rfl hl.1 rfl (lv_room (Nat.le_of_ble_eq_true rfl)) dX3_degree_5 ⟨Nat.le_of_ble_eq_true rfl, Nat.le_of_ble_eq_true rfl⟩) rfl ?_
  have hPc := hP.sub (ws' := [(xb, .inr (0, [.ref as, .ref ar, .ref am, .int (nI bn)])), (as, .inl (cI, 10, .inl bs)), (ar, .inl (cI, 10, .inl br)), (am, .inl (cI, 1024, .inl mt))]) [3, 4, 5, 6] rfl
  refine bv_cSi (pc := 8) (E' := (nI (bv_degn bs br bn (pf (pn - 1))))) (va_runV (As := [.int (pf (pn - 1))]) (rest := []) ⟨hx, hb, hml, hown, hts⟩ (m_X0_degreeOf l G cI xb as ar am bn bs br mt (pf (pn - 1)) hn hM) (cwV 1 hts gX3_degree_X0_degreeOf rfl rfl rfl (by decide +kernel) ⟨Nat.le_of_ble_eq_true rfl, Nat.le_of_ble_eq_true rfl⟩) (bv_pV hE hPc (va_recv hK hP (ci := 0) (q0 := 3) rfl rfl)) rfl rfl hl.1 rfl (lv_room (Nat.le_of_ble_eq_true rfl)) dX3_degree_8 ⟨Nat.le_of_ble_eq_true rfl, Nat.le_of_ble_eq_true rfl⟩) rfl ?_
  exact W.iret (pc := 11) (v := (nI (bv_degn bs br bn (pf (pn - 1))))) hx hb hr (fun T8 hT8 hW8 => ⟨(nI (bv_degn bs br bn (pf (pn - 1)))), rfl, rfl, hT8⟩) (fun _ h => nomatch h) dX3_degree_11
set_option maxHeartbeats 4000000 in
set_option maxRecDepth 100000 in
theorem m_X3_conflict (l : Launch) (G : va_G) (cI : ClassId) (x xp ap pn xb as ar am bn xm al ak : Nat) (pf bs br mt lv ks : Nat → Int32) (hp : pn ≤ 12) (hn : bn ≤ 10) (hM : ∀ t, t < 2 ^ bn → mt t = bv_wi bs t bn) : Met l yX3_conflict wsX3_conflict ({ frames := 4, cells := 0, slots := 0, locals := 87 }) (bv_P [.ref x] G cI (fun H => va_P G vwCl [(x, .inr (3, [.ref xp, .ref xb, .ref xm])), (xp, .inr (2, [.ref ap, .int (nI pn)])), (ap, .inl (cI, 12, .inl pf)), (xb, .inr (0, [.ref as, .ref ar, .ref am, .int (nI bn)])), (as, .inl (cI, 10, .inl bs)), (ar, .inl (cI, 10, .inl br)), (am, .inl (cI, 1024, .inl mt)), (xm, .inr (1, [.ref al, .ref ak])), (al, .inl (cI, 16, .inl lv)), (ak, .inl (cI, 16, .inl ks))] H)) (vp_Si (fun r9 : Int32 => r9 = (nI (bv_degn bs br bn 0)))) 0 0 (fun _ => False) := by
  refine Met.ofW (cc := cX3_conflict) (maxL := 1) (ret := (some .int)) (by decide) rfl ?_
  intro p e s m args below meth c s₁ B hml hv
  obtain ⟨rfl, hP, hE⟩ := hv
  have hx := B.exec
  have hb := B.bytes
  have hr := B.returns
  have hts := atoms_spec (ws := wsX3_conflict) B.pre
  have hown : s.vm.findClass RX3 = some m.cls := findClass_of_methodNamed B.named
  have hlocks := B.notSynchronized
  have hK := hE.1
  have hw0 := hts (.fieldLink RX3 19 "BeliefReviser" "base" "LBeliefReviser$Base;") (List.mem_of_getElem? (i := 1) rfl)
  have hw1 : ∀ w ∈ u_ws RX3 TX3 3, w ∈ wsX3_conflict := by decide +kernel
  have hP : va_P G vwCl [(x, .inr (3, [.ref xp, .ref xb, .ref xm])), (xp, .inr (2, [.ref ap, .int (nI pn)])), (ap, .inl (cI, 12, .inl pf)), (xb, .inr (0, [.ref as, .ref ar, .ref am, .int (nI bn)])), (as, .inl (cI, 10, .inl bs)), (ar, .inl (cI, 10, .inl br)), (am, .inl (cI, 1024, .inl mt)), (xm, .inr (1, [.ref al, .ref ak])), (al, .inl (cI, 16, .inl lv)), (ak, .inl (cI, 16, .inl ks))] s.heap := hP
  have hl := lv_entry ([.ref x]) (n := 1) (Nat.le_of_ble_eq_true rfl)
  rw [lg_entry_eq]
  generalize (lg_sl ([.ref x]) ++ List.replicate (1 - (lg_sl ([.ref x])).length) Slot.unset).toArray = ls at hl ⊢
  have hl : lv_has ls 1 [(0, .ref x)] := hl
  refine lv_aload_n (pc := 0) hx hb dX3_conflict_0 rfl (lv_at hl 0 rfl) ?_
  refine va_get (pc := 1) (D := G) (ci := 3) (v := .ref xb) (C := RX3) (T := TX3) (N := 3) hx hb hts hw1 hown hK hP 0 rfl rfl 1 (by decide) hw0 (fun _ h9 => h9) rfl dX3_conflict_1 ?_
  refine lv_iconst (pc := 4) (v := 0) hx hb dX3_conflict_4 (by decide) ?_
  have hPc := hP.sub (ws' := [(xb, .inr (0, [.ref as, .ref ar, .ref am, .int (nI bn)])), (as, .inl (cI, 10, .inl bs)), (ar, .inl (cI, 10, .inl br)), (am, .inl (cI, 1024, .inl mt))]) [3, 4, 5, 6] rfl
  refine bv_cSi (pc := 5) (E' := (nI (bv_degn bs br bn 0))) (va_runV (As := [.int 0]) (rest := []) ⟨hx, hb, hml, hown, hts⟩ (m_X0_degreeOf l G cI xb as ar am bn bs br mt 0 hn hM) (cwV 1 hts gX3_conflict_X0_degreeOf rfl rfl rfl (by decide +kernel) ⟨Nat.le_of_ble_eq_true rfl, Nat.le_of_ble_eq_true rfl⟩) (bv_pV hE hPc (va_recv hK hP (ci := 0) (q0 := 3) rfl rfl)) rfl rfl hl.1 rfl (lv_room (Nat.le_of_ble_eq_true rfl)) dX3_conflict_5 ⟨Nat.le_of_ble_eq_true rfl, Nat.le_of_ble_eq_true rfl⟩) rfl ?_
  exact W.iret (pc := 8) (v := (nI (bv_degn bs br bn 0))) hx hb hr (fun T8 hT8 hW8 => ⟨(nI (bv_degn bs br bn 0)), rfl, rfl, hT8⟩) (fun _ h => nomatch h) dX3_conflict_8
set_option maxHeartbeats 4000000 in
set_option maxRecDepth 100000 in
theorem m_X3_core (l : Launch) (G : va_G) (cI : ClassId) (x xp ap pn xb as ar am bn xm al ak : Nat) (pf bs br mt lv ks : Nat → Int32) (hp : pn ≤ 12) (hn : bn ≤ 10) (hM : ∀ t, t < 2 ^ bn → mt t = bv_wi bs t bn) : Met l yX3_core wsX3_core ({ frames := 5, cells := 0, slots := 0, locals := 107 }) (bv_P [.ref x] G cI (fun H => va_P G vwCl [(x, .inr (3, [.ref xp, .ref xb, .ref xm])), (xp, .inr (2, [.ref ap, .int (nI pn)])), (ap, .inl (cI, 12, .inl pf)), (xb, .inr (0, [.ref as, .ref ar, .ref am, .int (nI bn)])), (as, .inl (cI, 10, .inl bs)), (ar, .inl (cI, 10, .inl br)), (am, .inl (cI, 1024, .inl mt)), (xm, .inr (1, [.ref al, .ref ak])), (al, .inl (cI, 16, .inl lv)), (ak, .inl (cI, 16, .inl ks))] H)) (vp_Si (fun r9 : Int32 => r9 = (bv_core bs br bn))) 0 0 (fun _ => False) := by
  refine Met.ofW (cc := cX3_core) (maxL := 1) (ret := (some .int)) (by decide) rfl ?_
  intro p e s m args below meth c s₁ B hml hv
  obtain ⟨rfl, hP, hE⟩ := hv
  have hx := B.exec
  have hb := B.bytes
  have hr := B.returns
  have hts := atoms_spec (ws := wsX3_core) B.pre
  have hown : s.vm.findClass RX3 = some m.cls := findClass_of_methodNamed B.named
  have hlocks := B.notSynchronized
  have hK := hE.1
  have hw0 := hts (.fieldLink RX3 19 "BeliefReviser" "base" "LBeliefReviser$Base;") (List.mem_of_getElem? (i := 1) rfl)
  have hw1 : ∀ w ∈ u_ws RX3 TX3 3, w ∈ wsX3_core := by decide +kernel
  have hP : va_P G vwCl [(x, .inr (3, [.ref xp, .ref xb, .ref xm])), (xp, .inr (2, [.ref ap, .int (nI pn)])), (ap, .inl (cI, 12, .inl pf)), (xb, .inr (0, [.ref as, .ref ar, .ref am, .int (nI bn)])), (as, .inl (cI, 10, .inl bs)), (ar, .inl (cI, 10, .inl br)), (am, .inl (cI, 1024, .inl mt)), (xm, .inr (1, [.ref al, .ref ak])), (al, .inl (cI, 16, .inl lv)), (ak, .inl (cI, 16, .inl ks))] s.heap := hP
  have hl := lv_entry ([.ref x]) (n := 1) (Nat.le_of_ble_eq_true rfl)
  rw [lg_entry_eq]
  generalize (lg_sl ([.ref x]) ++ List.replicate (1 - (lg_sl ([.ref x])).length) Slot.unset).toArray = ls at hl ⊢
  have hl : lv_has ls 1 [(0, .ref x)] := hl
  refine lv_aload_n (pc := 0) hx hb dX3_core_0 rfl (lv_at hl 0 rfl) ?_
  refine va_get (pc := 1) (D := G) (ci := 3) (v := .ref xb) (C := RX3) (T := TX3) (N := 3) hx hb hts hw1 hown hK hP 0 rfl rfl 1 (by decide) hw0 (fun _ h9 => h9) rfl dX3_core_1 ?_
  have hPc := hP.sub (ws' := [(xb, .inr (0, [.ref as, .ref ar, .ref am, .int (nI bn)])), (as, .inl (cI, 10, .inl bs)), (ar, .inl (cI, 10, .inl br)), (am, .inl (cI, 1024, .inl mt))]) [3, 4, 5, 6] rfl
  refine bv_cSi (pc := 4) (E' := (bv_core bs br bn)) (va_runV (As := []) (rest := []) ⟨hx, hb, hml, hown, hts⟩ (m_X0_believedWorlds l G cI xb as ar am bn bs br mt hn hM) (cwV 0 hts gX3_core_X0_believedWorlds rfl rfl rfl (by decide +kernel) ⟨Nat.le_of_ble_eq_true rfl, Nat.le_of_ble_eq_true rfl⟩) (bv_pV hE hPc (va_recv hK hP (ci := 0) (q0 := 3) rfl rfl)) rfl rfl hl.1 rfl (lv_room (Nat.le_of_ble_eq_true rfl)) dX3_core_4 ⟨Nat.le_of_ble_eq_true rfl, Nat.le_of_ble_eq_true rfl⟩) rfl ?_
  exact W.iret (pc := 7) (v := (bv_core bs br bn)) hx hb hr (fun T8 hT8 hW8 => ⟨(bv_core bs br bn), rfl, rfl, hT8⟩) (fun _ h => nomatch h) dX3_core_7
