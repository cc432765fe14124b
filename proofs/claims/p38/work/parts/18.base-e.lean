set_option maxHeartbeats 4000000 in
set_option maxRecDepth 100000 in
theorem m_X0_include (l : Launch) (G : va_G) (cI : ClassId) (sz : Nat) (xb as ar am bn : Nat) (bs br mt : Nat → Int32) (v r : Int32) (hn : bn < 10) : Met l yX0_include wsX0_include ({ frames := 1, cells := 0, slots := 0, locals := 22 }) (bv_P [.ref xb, .int v, .int r] G cI (fun H => H.size = sz ∧ va_P G vwCl [(xb, .inr (0, [.ref as, .ref ar, .ref am, .int (nI bn)])), (as, .inl (cI, 10, .inl bs)), (ar, .inl (cI, 10, .inl br)), (am, .inl (cI, 1024, .inl mt))] H ∧ va_D (fun _ => True) [(xb, .inr (0, [.ref as, .ref ar, .ref am, .int (nI bn)])), (as, .inl (cI, 10, .inl bs)), (ar, .inl (cI, 10, .inl br)), (am, .inl (cI, 1024, .inl mt))])) (va_Qv (fun _ : Unit => True) (fun (_ : Unit) (T9 : State) => va_P G vwCl [(xb, .inr (0, [.ref as, .ref ar, .ref am, .int (nI (bn + 1))])), (as, .inl (cI, 10, .inl (upd bs bn v))), (ar, .inl (cI, 10, .inl (upd br bn r))), (am, .inl (cI, 1024, .inl (bv_mx mt (2 ^ bn) v (2 ^ bn))))] T9.heap) (va_A [(xb, .inr (0, [.ref as, .ref ar, .ref am, .int (nI bn)])), (as, .inl (cI, 10, .inl bs)), (ar, .inl (cI, 10, .inl br)), (am, .inl (cI, 1024, .inl mt))] sz)) 0 0 (va_A [(xb, .inr (0, [.ref as, .ref ar, .ref am, .int (nI bn)])), (as, .inl (cI, 10, .inl bs)), (ar, .inl (cI, 10, .inl br)), (am, .inl (cI, 1024, .inl mt))] sz) := by
  refine Met.ofW (cc := cX0_include) (maxL := 5) (ret := none) (by decide) rfl ?_
  intro p e s m args below meth c s₁ B hml hv
  obtain ⟨rfl, ⟨hsz, hP, hD0⟩, hE⟩ := hv
  have hx := B.exec
  have hb := B.bytes
  have hr := B.returns
  have hts := atoms_spec (ws := wsX0_include) B.pre
  have hown : s.vm.findClass RX0 = some m.cls := findClass_of_methodNamed B.named
  have hlocks := B.notSynchronized
  have hK := hE.1
  have hw0 := hts (.fieldLink RX0 9 "BeliefReviser$Base" "sentences" "[I") (List.mem_of_getElem? (i := 1) rfl)
  have hw1 : ∀ w ∈ u_ws RX0 TX0 4, w ∈ wsX0_include := by decide +kernel
  have hw2 := hts (.fieldLink RX0 21 "BeliefReviser$Base" "count" "I") (List.mem_of_getElem? (i := 2) rfl)
  have hw3 := hts (.static yX3_put) (List.mem_of_getElem? (i := 10) rfl)
  have hw4 := hts (.initialized RX3) (List.mem_of_getElem? (i := 11) rfl)
  have hw5 : va_Nw (.methodLinkNest RX0 26 yX3_put RX3) s := hE.2 (RX0, 26, yX3_put) (List.mem_of_getElem? (i := 2) rfl)
  have hw6 := hts (.fieldLink RX0 15 "BeliefReviser$Base" "ranks" "[I") (List.mem_of_getElem? (i := 3) rfl)
  have hw7 := hts (.fieldLink RX0 18 "BeliefReviser$Base" "meets" "[I") (List.mem_of_getElem? (i := 4) rfl)
  have hw8 := hts (.static yX3_at) (List.mem_of_getElem? (i := 17) rfl)
  have hw9 : va_Nw (.methodLinkNest RX0 30 yX3_at RX3) s := hE.2 (RX0, 30, yX3_at) (List.mem_of_getElem? (i := 3) rfl)
  subst hsz
  have hD := hD0.self (sz := s.heap.size)
  generalize hAe : va_A [(xb, .inr (0, [.ref as, .ref ar, .ref am, .int (nI bn)])), (as, .inl (cI, 10, .inl bs)), (ar, .inl (cI, 10, .inl br)), (am, .inl (cI, 1024, .inl mt))] s.heap.size = A at hD ⊢
  have hA : ∀ q : Nat, s.heap.size ≤ q → A q := fun q h => by rw [← hAe]; exact Or.inr h
  have hS : va_S A s.heap s.heap [] := va_S.rf
  have hP : va_P G vwCl [(xb, .inr (0, [.ref as, .ref ar, .ref am, .int (nI bn)])), (as, .inl (cI, 10, .inl bs)), (ar, .inl (cI, 10, .inl br)), (am, .inl (cI, 1024, .inl mt))] s.heap := hP
  have hl := lv_entry ([.ref xb, .int v, .int r]) (n := 5) (Nat.le_of_ble_eq_true rfl)
  rw [lg_entry_eq]
  generalize (lg_sl ([.ref xb, .int v, .int r]) ++ List.replicate (5 - (lg_sl ([.ref xb, .int v, .int r])).length) Slot.unset).toArray = ls at hl ⊢
  have hl : lv_has ls 5 [(0, .ref xb), (1, .int v), (2, .int r)] := hl
  have hp9 := bv_p9 hn
  refine lv_aload_n (pc := 0) hx hb dX0_include_0 rfl (lv_at hl 0 rfl) ?_
  have hPc := hP.sub (ws' := [(xb, .inr (0, [.ref as, .ref ar, .ref am, .int (nI bn)])), (as, .inl (cI, 10, .inl bs)), (ar, .inl (cI, 10, .inl br)), (am, .inl (cI, 1024, .inl mt))]) [0, 1, 2, 3] rfl
  refine bv_cSi (pc := 1) (E' := 0) (va_runV (As := []) (rest := []) ⟨hx, hb, hml, hown, hts⟩ (m_X0_isFull l G cI xb as ar am bn bs br mt (by omega)) (cwV 0 hts gX0_include_X0_isFull rfl rfl rfl (by decide +kernel) ⟨Nat.le_of_ble_eq_true rfl, Nat.le_of_ble_eq_true rfl⟩) (bv_pV hE hPc (va_recv hK hP (ci := 0) (q0 := 0) rfl rfl)) rfl rfl hl.1 rfl (lv_room (Nat.le_of_ble_eq_true rfl)) dX0_include_1 ⟨Nat.le_of_ble_eq_true rfl, Nat.le_of_ble_eq_true rfl⟩) (by rw [decide_eq_false (by omega)]; rfl) ?_
  refine lv_if_eq (pc := 4) (tgt := 8) hx hb dX0_include_4 (by decide) (fun c4_3 => ?_) (fun c4_3 => ?_)
  · refine lv_aload_n (pc := 8) hx hb dX0_include_8 rfl (lv_at hl 0 rfl) ?_
    refine va_get (pc := 9) (D := G) (ci := 0) (v := .ref as) (C := RX0) (T := TX0) (N := 4) hx hb hts hw1 hown hK hP 0 rfl rfl 0 (by decide) hw0 (fun _ h9 => h9) rfl dX0_include_9 ?_
    refine lv_aload_n (pc := 12) hx hb dX0_include_12 rfl (lv_at hl 0 rfl) ?_
    refine va_get (pc := 13) (D := G) (ci := 0) (v := .int (nI bn)) (C := RX0) (T := TX0) (N := 4) hx hb hts hw1 hown hK hP 0 rfl rfl 3 (by decide) hw2 (fun _ h9 => h9) rfl dX0_include_13 ?_
    refine lv_iload_n (pc := 16) hx hb dX0_include_16 rfl (lv_at hl 1 rfl) ?_
    have hPc := hP.sub (ws' := [(as, .inl (cI, 10, .inl bs))]) [1] rfl
    have hDc := hD.sub (ws' := [(as, .inl (cI, 10, .inl bs))]) [1] (by decide) rfl
    have hFc := va_free (wc := [(as, .inl (cI, 10, .inl bs))]) hD hS hA [1] rfl
    refine va_callv (pc := 17) (va_runSN (As := [.ref as, .int (nI bn), .int v]) (rest := []) ⟨hx, hb, hml, hown, hts⟩ (m_X3_put l G cI s.heap.size as 10 bs (nI bn) v (by decide)) ⟨va_cnB 3 hts gX0_include_X3_put_n26 rfl rfl rfl hw5 hw4 (by decide +kernel) ⟨Nat.le_of_ble_eq_true rfl, Nat.le_of_ble_eq_true rfl⟩, hw3, trivial⟩ (bv_pS hE ⟨rfl, hPc, hDc.weaken (fun _ _ _ _ => trivial)⟩) rfl rfl hl.1 rfl (lv_room (Nat.le_of_ble_eq_true rfl)) dX0_include_17 ⟨Nat.le_of_ble_eq_true rfl, Nat.le_of_ble_eq_true rfl⟩) hS (fun q _ h => hFc q h) hFc (fun u8 t8 H1 locs ht8 hvm8 e_5 hB8 hz1 hk1 hS => ?_)
    have hP1 : va_P G vwCl [(as, .inl (cI, 10, .inl (bv_put 10 bs (nI bn) v)))] H1 := by rw [← ht8]; exact hB8
    obtain ⟨hP, hD⟩ := va_join (wr := [(xb, .inr (0, [.ref as, .ref ar, .ref am, .int (nI bn)])), (ar, .inl (cI, 10, .inl br)), (am, .inl (cI, 1024, .inl mt))]) (w1 := [(as, .inl (cI, 10, .inl (bv_put 10 bs (nI bn) v)))]) hP hD [1] [0, 2, 3] rfl rfl (by decide) (by decide) hk1 hFc hP1 (bv_Dm (w0 := [(as, .inl (cI, 10, .inl bs))]) [as] rfl rfl hDc.self)
    have hP : va_P G vwCl [(xb, .inr (0, [.ref as, .ref ar, .ref am, .int (nI bn)])), (as, .inl (cI, 10, .inl (bv_put 10 bs (nI bn) v))), (ar, .inl (cI, 10, .inl br)), (am, .inl (cI, 1024, .inl mt))] H1 := hP.sub (ws' := [(xb, .inr (0, [.ref as, .ref ar, .ref am, .int (nI bn)])), (as, .inl (cI, 10, .inl (bv_put 10 bs (nI bn) v))), (ar, .inl (cI, 10, .inl br)), (am, .inl (cI, 1024, .inl mt))]) [0, 3, 1, 2] rfl
    have hD : va_D A [(xb, .inr (0, [.ref as, .ref ar, .ref am, .int (nI bn)])), (as, .inl (cI, 10, .inl (bv_put 10 bs (nI bn) v))), (ar, .inl (cI, 10, .inl br)), (am, .inl (cI, 1024, .inl mt))] := hD.sub (ws' := [(xb, .inr (0, [.ref as, .ref ar, .ref am, .int (nI bn)])), (as, .inl (cI, 10, .inl (bv_put 10 bs (nI bn) v))), (ar, .inl (cI, 10, .inl br)), (am, .inl (cI, 1024, .inl mt))]) [0, 3, 1, 2] (by decide) rfl
    generalize H1 = H at hP hS ⊢
    rw [show (bv_put 10 bs (nI bn) v) = (upd bs bn v) from bv_put_nI hn (by decide)] at hP hD
    refine lv_aload_n (pc := 20) hx hb dX0_include_20 rfl (lv_at hl 0 rfl) ?_
    refine va_get (pc := 21) (D := G) (ci := 0) (v := .ref ar) (C := RX0) (T := TX0) (N := 4) hx hb hts hw1 hown hK hP 0 rfl rfl 1 (by decide) hw6 (fun _ h9 => h9) rfl dX0_include_21 ?_
    refine lv_aload_n (pc := 24) hx hb dX0_include_24 rfl (lv_at hl 0 rfl) ?_
    refine va_get (pc := 25) (D := G) (ci := 0) (v := .int (nI bn)) (C := RX0) (T := TX0) (N := 4) hx hb hts hw1 hown hK hP 0 rfl rfl 3 (by decide) hw2 (fun _ h9 => h9) rfl dX0_include_25 ?_
    refine lv_iload_n (pc := 28) hx hb dX0_include_28 rfl (lv_at hl 2 rfl) ?_
    have hPc := hP.sub (ws' := [(ar, .inl (cI, 10, .inl br))]) [2] rfl
    have hDc := hD.sub (ws' := [(ar, .inl (cI, 10, .inl br))]) [2] (by decide) rfl
    have hFc := va_free (wc := [(ar, .inl (cI, 10, .inl br))]) hD hS hA [2] rfl
    refine va_callv (pc := 29) (va_runSN (As := [.ref ar, .int (nI bn), .int r]) (rest := []) ⟨hx, hb, hml, hown, hts⟩ (m_X3_put l G cI H.size ar 10 br (nI bn) r (by decide)) ⟨va_cnB 3 hts gX0_include_X3_put_n26 rfl rfl rfl hw5 hw4 (by decide +kernel) ⟨Nat.le_of_ble_eq_true rfl, Nat.le_of_ble_eq_true rfl⟩, hw3, trivial⟩ (bv_pS hE ⟨rfl, hPc, hDc.weaken (fun _ _ _ _ => trivial)⟩) rfl rfl hl.1 rfl (lv_room (Nat.le_of_ble_eq_true rfl)) dX0_include_29 ⟨Nat.le_of_ble_eq_true rfl, Nat.le_of_ble_eq_true rfl⟩) hS (fun q _ h => hFc q h) hFc (fun u8 t8 H1 locs ht8 hvm8 e_7 hB8 hz1 hk1 hS => ?_)
    have hP1 : va_P G vwCl [(ar, .inl (cI, 10, .inl (bv_put 10 br (nI bn) r)))] H1 := by rw [← ht8]; exact hB8
    obtain ⟨hP, hD⟩ := va_join (wr := [(xb, .inr (0, [.ref as, .ref ar, .ref am, .int (nI bn)])), (as, .inl (cI, 10, .inl (upd bs bn v))), (am, .inl (cI, 1024, .inl mt))]) (w1 := [(ar, .inl (cI, 10, .inl (bv_put 10 br (nI bn) r)))]) hP hD [2] [0, 1, 3] rfl rfl (by decide) (by decide) hk1 hFc hP1 (bv_Dm (w0 := [(ar, .inl (cI, 10, .inl br))]) [ar] rfl rfl hDc.self)
    have hP : va_P G vwCl [(xb, .inr (0, [.ref as, .ref ar, .ref am, .int (nI bn)])), (as, .inl (cI, 10, .inl (upd bs bn v))), (ar, .inl (cI, 10, .inl (bv_put 10 br (nI bn) r))), (am, .inl (cI, 1024, .inl mt))] H1 := hP.sub (ws' := [(xb, .inr (0, [.ref as, .ref ar, .ref am, .int (nI bn)])), (as, .inl (cI, 10, .inl (upd bs bn v))), (ar, .inl (cI, 10, .inl (bv_put 10 br (nI bn) r))), (am, .inl (cI, 1024, .inl mt))]) [0, 1, 3, 2] rfl
    have hD : va_D A [(xb, .inr (0, [.ref as, .ref ar, .ref am, .int (nI bn)])), (as, .inl (cI, 10, .inl (upd bs bn v))), (ar, .inl (cI, 10, .inl (bv_put 10 br (nI bn) r))), (am, .inl (cI, 1024, .inl mt))] := hD.sub (ws' := [(xb, .inr (0, [.ref as, .ref ar, .ref am, .int (nI bn)])), (as, .inl (cI, 10, .inl (upd bs bn v))), (ar, .inl (cI, 10, .inl (bv_put 10 br (nI bn) r))), (am, .inl (cI, 1024, .inl mt))]) [0, 1, 3, 2] (by decide) rfl
    generalize H1 = H at hP hS ⊢
    rw [show (bv_put 10 br (nI bn) r) = (upd br bn r) from bv_put_nI hn (by decide)] at hP hD
    refine lv_aload_n (pc := 32) hx hb dX0_include_32 rfl (lv_at hl 0 rfl) ?_
    have hPc := hP.sub (ws' := [(xb, .inr (0, [.ref as, .ref ar, .ref am, .int (nI bn)])), (as, .inl (cI, 10, .inl (upd bs bn v))), (ar, .inl (cI, 10, .inl (upd br bn r))), (am, .inl (cI, 1024, .inl mt))]) [0, 1, 2, 3] rfl
    refine bv_cSi (pc := 33) (E' := (nI (2 ^ bn))) (va_runV (As := []) (rest := []) ⟨hx, hb, hml, hown, hts⟩ (m_X0_countSets l G cI xb as ar am bn (upd bs bn v) (upd br bn r) mt (by omega)) (cwV 0 hts gX0_include_X0_countSets rfl rfl rfl (by decide +kernel) ⟨Nat.le_of_ble_eq_true rfl, Nat.le_of_ble_eq_true rfl⟩) (bv_pV hE hPc (va_recv hK hP (ci := 0) (q0 := 0) rfl rfl)) rfl rfl hl.1 rfl (lv_room (Nat.le_of_ble_eq_true rfl)) dX0_include_33 ⟨Nat.le_of_ble_eq_true rfl, Nat.le_of_ble_eq_true rfl⟩) rfl ?_
    refine lv_istore_n (pc := 36) (lv' := [(3, .int (nI (2 ^ bn))), (0, .ref xb), (1, .int v), (2, .int r)]) hx hb dX0_include_36 rfl hl (by decide) rfl (fun ls hl => ?_)
    refine lv_iconst (pc := 37) (v := 0) hx hb dX0_include_37 (by decide) ?_
    refine lv_istore (pc := 38) (lv' := [(4, .int 0), (3, .int (nI (2 ^ bn))), (0, .ref xb), (1, .int v), (2, .int r)]) hx hb dX0_include_38 hl (by decide) rfl (fun ls hl => ?_)
    have loop_40 : ∀ (fu9 : Nat) (t : Nat), 2 ^ bn - t < fu9 → (t ≤ 2 ^ bn) → ∀ (H : Heap) (locs : List Loc), va_P G vwCl [(xb, .inr (0, [.ref as, .ref ar, .ref am, .int (nI bn)])), (as, .inl (cI, 10, .inl (upd bs bn v))), (ar, .inl (cI, 10, .inl (upd br bn r))), (am, .inl (cI, 1024, .inl (bv_mx mt (2 ^ bn) v t)))] H → va_D A [(xb, .inr (0, [.ref as, .ref ar, .ref am, .int (nI bn)])), (as, .inl (cI, 10, .inl (upd bs bn v))), (ar, .inl (cI, 10, .inl (upd br bn r))), (am, .inl (cI, 1024, .inl (bv_mx mt (2 ^ bn) v t)))] → va_S A s.heap H locs → ∀ (ls : Array Slot), lv_has ls 5 [(4, .int (nI t)), (3, .int (nI (2 ^ bn))), (0, .ref xb), (1, .int v), (2, .int r)] → W p l e (headSpec wsX0_include ({ frames := 1, cells := 0, slots := 0, locals := 22 })).room s m ([.ref xb, .int v, .int r] : List Value).toArray below meth c H locs 0 0 (MQ below (va_Qv (fun _ : Unit => True) (fun (_ : Unit) (T9 : State) => va_P G vwCl [(xb, .inr (0, [.ref as, .ref ar, .ref am, .int (nI (bn + 1))])), (as, .inl (cI, 10, .inl (upd bs bn v))), (ar, .inl (cI, 10, .inl (upd br bn r))), (am, .inl (cI, 1024, .inl (bv_mx mt (2 ^ bn) v (2 ^ bn))))] T9.heap) A) ([.ref xb, .int v, .int r] : List Value).toArray s 0 0 A) (F0 m 40 ls []) := by
      intro fu9
      induction fu9 with
      | zero => intro t hfu; exact absurd hfu (Nat.not_lt_zero _)
      | succ fu9 ih =>
        intro t hfu hk H locs hP hD hS ls hl
        refine lv_iload (pc := 40) hx hb dX0_include_40 (lv_at hl 0 rfl) ?_
        refine lv_iload_n (pc := 42) hx hb dX0_include_42 rfl (lv_at hl 1 rfl) ?_
        refine lv_icmp_ge (pc := 43) (tgt := 74) hx hb dX0_include_43 (by decide) (fun c43_10 => ?_) (fun c43_10 => ?_)
        · have hkn : 2 ^ bn = t := by
            by_cases h : t < 2 ^ bn
            · exact absurd c43_10 (nI_ge h (by omega))
            · omega
          subst hkn
          refine lv_aload_n (pc := 74) hx hb dX0_include_74 rfl (lv_at hl 2 rfl) ?_
          refine lv_dup (pc := 75) hx hb dX0_include_75 rfl ?_
          refine va_get (pc := 76) (D := G) (ci := 0) (v := .int (nI bn)) (C := RX0) (T := TX0) (N := 4) hx hb hts hw1 hown hK hP 0 rfl rfl 3 (by decide) hw2 (fun _ h9 => h9) rfl dX0_include_76 ?_
          refine lv_iconst (pc := 79) (v := 1) hx hb dX0_include_79 (by decide) ?_
          refine lv_iadd (pc := 80) hx hb dX0_include_80 ?_
          rw [show ((nI bn) + 1) = (nI (bn + 1)) from nI_1 bn]
          refine va_put (pc := 81) (D := G) (ci := 0) (v := .int (nI (bn + 1))) (ty := .int) (C := RX0) (T := TX0) (N := 4) hx hb hts hw1 tyX0 tyX0_ok nmX0 hown hK hP hD hS 0 rfl rfl 3 (by decide) hw2 (fun _ h9 => h9) rfl (by decide +kernel) rfl rfl (Nat.le_of_ble_eq_true rfl) dX0_include_81 (fun H locs hP hD hS => ?_)
          have hP : va_P G vwCl [(xb, .inr (0, [.ref as, .ref ar, .ref am, .int (nI (bn + 1))])), (as, .inl (cI, 10, .inl (upd bs bn v))), (ar, .inl (cI, 10, .inl (upd br bn r))), (am, .inl (cI, 1024, .inl (bv_mx mt (2 ^ bn) v (2 ^ bn))))] H := hP
          have hD : va_D A [(xb, .inr (0, [.ref as, .ref ar, .ref am, .int (nI (bn + 1))])), (as, .inl (cI, 10, .inl (upd bs bn v))), (ar, .inl (cI, 10, .inl (upd br bn r))), (am, .inl (cI, 1024, .inl (bv_mx mt (2 ^ bn) v (2 ^ bn))))] := hD
          have hP9 : va_P G vwCl [(xb, .inr (0, [.ref as, .ref ar, .ref am, .int (nI (bn + 1))])), (as, .inl (cI, 10, .inl (upd bs bn v))), (ar, .inl (cI, 10, .inl (upd br bn r))), (am, .inl (cI, 1024, .inl (bv_mx mt (2 ^ bn) v (2 ^ bn))))] H := hP
          exact W.vret (pc := 84) hx hb hr (fun T8 hT8 hW8 => ⟨⟨(), rfl, trivial, bv_hP hT8 hP9⟩, hS.F hT8⟩) hS.2.2 dX0_include_84
        · have hkn : t < 2 ^ bn := by
            by_cases h : t < 2 ^ bn
            · exact h
            · exact absurd (nI_le (by omega) (by omega)) c43_10
          refine lv_aload_n (pc := 46) hx hb dX0_include_46 rfl (lv_at hl 2 rfl) ?_
          refine va_get (pc := 47) (D := G) (ci := 0) (v := .ref am) (C := RX0) (T := TX0) (N := 4) hx hb hts hw1 hown hK hP 0 rfl rfl 2 (by decide) hw7 (fun _ h9 => h9) rfl dX0_include_47 ?_
          refine lv_iload_n (pc := 50) hx hb dX0_include_50 rfl (lv_at hl 1 rfl) ?_
          refine lv_iload (pc := 51) hx hb dX0_include_51 (lv_at hl 0 rfl) ?_
          refine lv_iadd (pc := 53) hx hb dX0_include_53 ?_
          refine lv_aload_n (pc := 54) hx hb dX0_include_54 rfl (lv_at hl 2 rfl) ?_
          refine va_get (pc := 55) (D := G) (ci := 0) (v := .ref am) (C := RX0) (T := TX0) (N := 4) hx hb hts hw1 hown hK hP 0 rfl rfl 2 (by decide) hw7 (fun _ h9 => h9) rfl dX0_include_55 ?_
          refine lv_iload (pc := 58) hx hb dX0_include_58 (lv_at hl 0 rfl) ?_
          have hPc := hP.sub (ws' := [(am, .inl (cI, 1024, .inl (bv_mx mt (2 ^ bn) v t)))]) [3] rfl
          refine bv_cSi (pc := 60) (E' := (mt t)) (va_runSN (As := [.ref am, .int (nI t)]) (rest := [.int ((nI (2 ^ bn)) + (nI t)), .ref am]) ⟨hx, hb, hml, hown, hts⟩ (m_X3_at l G cI am 1024 (bv_mx mt (2 ^ bn) v t) (nI t) (by decide)) ⟨va_cnB 2 hts gX0_include_X3_at_n30 rfl rfl rfl hw9 hw4 (by decide +kernel) ⟨Nat.le_of_ble_eq_true rfl, Nat.le_of_ble_eq_true rfl⟩, hw8, trivial⟩ (bv_pS hE hPc) rfl rfl hl.1 rfl (lv_room (Nat.le_of_ble_eq_true rfl)) dX0_include_60 ⟨Nat.le_of_ble_eq_true rfl, Nat.le_of_ble_eq_true rfl⟩) (by rw [bv_at_nI (by omega) (by decide)]; exact bv_mx_at hkn) ?_
          refine lv_iload_n (pc := 63) hx hb dX0_include_63 rfl (lv_at hl 3 rfl) ?_
          refine lv_iand (pc := 64) hx hb dX0_include_64 ?_
          have hPc := hP.sub (ws' := [(am, .inl (cI, 1024, .inl (bv_mx mt (2 ^ bn) v t)))]) [3] rfl
          have hDc := hD.sub (ws' := [(am, .inl (cI, 1024, .inl (bv_mx mt (2 ^ bn) v t)))]) [3] (by decide) rfl
          have hFc := va_free (wc := [(am, .inl (cI, 1024, .inl (bv_mx mt (2 ^ bn) v t)))]) hD hS hA [3] rfl
          refine va_callv (pc := 65) (va_runSN (As := [.ref am, .int ((nI (2 ^ bn)) + (nI t)), .int ((mt t) &&& v)]) (rest := []) ⟨hx, hb, hml, hown, hts⟩ (m_X3_put l G cI H.size am 1024 (bv_mx mt (2 ^ bn) v t) ((nI (2 ^ bn)) + (nI t)) ((mt t) &&& v) (by decide)) ⟨va_cnB 3 hts gX0_include_X3_put_n26 rfl rfl rfl hw5 hw4 (by decide +kernel) ⟨Nat.le_of_ble_eq_true rfl, Nat.le_of_ble_eq_true rfl⟩, hw3, trivial⟩ (bv_pS hE ⟨rfl, hPc, hDc.weaken (fun _ _ _ _ => trivial)⟩) rfl rfl hl.1 rfl (lv_room (Nat.le_of_ble_eq_true rfl)) dX0_include_65 ⟨Nat.le_of_ble_eq_true rfl, Nat.le_of_ble_eq_true rfl⟩) hS (fun q _ h => hFc q h) hFc (fun u8 t8 H1 locs ht8 hvm8 e_14 hB8 hz1 hk1 hS => ?_)
          have hP1 : va_P G vwCl [(am, .inl (cI, 1024, .inl (bv_put 1024 (bv_mx mt (2 ^ bn) v t) ((nI (2 ^ bn)) + (nI t)) ((mt t) &&& v))))] H1 := by rw [← ht8]; exact hB8
          obtain ⟨hP, hD⟩ := va_join (wr := [(xb, .inr (0, [.ref as, .ref ar, .ref am, .int (nI bn)])), (as, .inl (cI, 10, .inl (upd bs bn v))), (ar, .inl (cI, 10, .inl (upd br bn r)))]) (w1 := [(am, .inl (cI, 1024, .inl (bv_put 1024 (bv_mx mt (2 ^ bn) v t) ((nI (2 ^ bn)) + (nI t)) ((mt t) &&& v))))]) hP hD [3] [0, 1, 2] rfl rfl (by decide) (by decide) hk1 hFc hP1 (bv_Dm (w0 := [(am, .inl (cI, 1024, .inl (bv_mx mt (2 ^ bn) v t)))]) [am] rfl rfl hDc.self)
          have hP : va_P G vwCl [(xb, .inr (0, [.ref as, .ref ar, .ref am, .int (nI bn)])), (as, .inl (cI, 10, .inl (upd bs bn v))), (ar, .inl (cI, 10, .inl (upd br bn r))), (am, .inl (cI, 1024, .inl (bv_put 1024 (bv_mx mt (2 ^ bn) v t) ((nI (2 ^ bn)) + (nI t)) ((mt t) &&& v))))] H1 := hP.sub (ws' := [(xb, .inr (0, [.ref as, .ref ar, .ref am, .int (nI bn)])), (as, .inl (cI, 10, .inl (upd bs bn v))), (ar, .inl (cI, 10, .inl (upd br bn r))), (am, .inl (cI, 1024, .inl (bv_put 1024 (bv_mx mt (2 ^ bn) v t) ((nI (2 ^ bn)) + (nI t)) ((mt t) &&& v))))]) [0, 1, 2, 3] rfl
          have hD : va_D A [(xb, .inr (0, [.ref as, .ref ar, .ref am, .int (nI bn)])), (as, .inl (cI, 10, .inl (upd bs bn v))), (ar, .inl (cI, 10, .inl (upd br bn r))), (am, .inl (cI, 1024, .inl (bv_put 1024 (bv_mx mt (2 ^ bn) v t) ((nI (2 ^ bn)) + (nI t)) ((mt t) &&& v))))] := hD.sub (ws' := [(xb, .inr (0, [.ref as, .ref ar, .ref am, .int (nI bn)])), (as, .inl (cI, 10, .inl (upd bs bn v))), (ar, .inl (cI, 10, .inl (upd br bn r))), (am, .inl (cI, 1024, .inl (bv_put 1024 (bv_mx mt (2 ^ bn) v t) ((nI (2 ^ bn)) + (nI t)) ((mt t) &&& v))))]) [0, 1, 2, 3] (by decide) rfl
          generalize H1 = H at hP hS ⊢
          rw [show (bv_put 1024 (bv_mx mt (2 ^ bn) v t) ((nI (2 ^ bn)) + (nI t)) ((mt t) &&& v)) = (bv_mx mt (2 ^ bn) v (t + 1)) from by rw [nI_add, bv_put_nI (by omega) (by decide)]; exact bv_mx_s] at hP hD
          refine lv_iinc (pc := 68) (v := (nI (t + 1))) (lv' := [(4, .int (nI (t + 1))), (3, .int (nI (2 ^ bn))), (0, .ref xb), (1, .int v), (2, .int r)]) hx hb dX0_include_68 hl (k := 0) rfl (nI_1 t) (by decide) rfl (fun ls hl => ?_)
          refine lv_goto (pc := 71) (tgt := 40) hx hb dX0_include_71 (by decide) ?_
          exact ih (t + 1) (by omega) (by omega) H _ hP hD hS ls (lv_sub hl [0, 1, 2, 3, 4] rfl)
    rw [← bv_mx_0 (mt := mt) (N := 2 ^ bn) (s := v)] at hP hD
    exact loop_40 (2 ^ bn - 0 + 1) 0 (Nat.lt_succ_self _) (Nat.zero_le _) H _ hP hD hS ls (lv_sub hl [0, 1, 2, 3, 4] rfl)
  · exact absurd rfl c4_3
