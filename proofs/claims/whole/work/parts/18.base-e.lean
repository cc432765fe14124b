set_option maxHeartbeats 4000000 in
set_option maxRecDepth 100000 in
theorem m_X0_include (l : Launch) (G : va_G) (cI : ClassId) (sz : Nat) (xb as ar am bn : Nat) (bs br mt : Nat → Int32) (v r : Int32) (hn : bn < 10) : Met l yX0_include wsX0_include ({ frames := 1, cells := 0, slots := 0, locals := 22 }) (bv_P [.ref xb, .int v, .int r] G cI (fun H => H.size = sz ∧ va_P G vwCl [(xb, .inr (0, [.ref as, .ref ar, .ref am, .int (nI bn)])), (as, .inl (cI, 10, .inl bs)), (ar, .inl (cI, 10, .inl br)), (am, .inl (cI, 1024, .inl mt))] H ∧ va_D (fun _ => True) [(xb, .inr (0, [.ref as, .ref ar, .ref am, .int (nI bn)])), (as, .inl (cI, 10, .inl bs)), (ar, .inl (cI, 10, .inl br)), (am, .inl (cI, 1024, .inl mt))])) (va_Qv (fun _ : Unit => True) (fun (_ : Unit) (T9 : State) => va_P G vwCl [(xb, .inr (0, [.ref as, .ref ar, .ref am, .int (nI (bn + 1))])), (as, .inl (cI, 10, .inl (upd bs bn v))), (ar, .inl (cI, 10, .inl (upd br bn r))), (am, .inl (cI, 1024, .inl (bv_mx mt (2 ^ bn) v (2 ^ bn))))] T9.heap) (va_A [(xb, .inr (0, [.ref as, .ref ar, .ref am, .int (nI bn)])), (as, .inl (cI, 10, .inl bs)), (ar, .inl (cI, 10, .inl br)), (am, .inl (cI, 1024, .inl mt))] sz)) 0 0 (va_A [(xb, .inr (0, [.ref as, .ref ar, .ref am, .int (nI bn)])), (as, .inl (cI, 10, .inl bs)), (ar, .inl (cI, 10, .inl br)), (am, .inl (cI, 1024, .inl mt))] sz) := by
  refine Met.ofW (cc := cX0_include) (maxL := 5) (ret := none) (by decide) rfl ?_
  intro p e s m args below meth c s₁ B hml hv
  obtain ⟨rfl, ⟨hsz, hP, hD0⟩, hE⟩ := hv
  have hx := B.exec
  have hb := B.bytes
  have hr := B.returns
  have hts := atoms_spec (ws := wsX0_include) B.pre
  have hown : s.vm.findClass RX0 = some m.cls := findClass_of_methodNamed B.named
  have hlocks := B.notSynchronized
  have hK := hE.1
  have hw0 := hts (.fieldLink RX0 9 "BeliefReviser$Base" "sentences" "[I") (List.mem_of_getElem? (i := 1) rfl)
  have hw1 : ∀ w ∈ u_ws RX0 TX0 4, w ∈ wsX0_include := by decide +kernel
  have hw2 := hts (.fieldLink RX0 21 "BeliefReviser$Base" "count" "I") (List.mem_of_getElem? (i := 2) rfl)
  have hw3 := hts (.static yX3_put) (List.mem_of_getElem? (i := 10) rfl)
  have hw4 := hts (.initialized RX3) (List.mem_of_getElem? (i := 11) rfl)
  have hw5 : va_Nw (.methodLinkNest RX0 26 yX3_put RX3) s := hE.2 (RX0, 26, yX3_put) (List.mem_of_getElem? (i := 2) rfl)
  have hw6 := hts (.fieldLink RX0 15 "BeliefReviser$Base" "ranks" "[I") (List.mem_of_getElem? (i := 3) rfl)
  have hw7 := hts (.fieldLink RX0 18 "BeliefReviser$Base" "meets" "[I") (List.mem_of_getElem? (i := 4) rfl)
  have hw8 := hts (.static yX3_at) (List.mem_of_getElem? (i := 17) rfl)
  have hw9 : va_Nw (.methodLinkNest RX0 30 yX3_at RX3) s := hE.2 (RX0, 30, yX3_at) (List.mem_of_getElem? (i := 3) rfl)
  subst hsz
  have hD := hD0.self (sz := s.heap.size)
  generalize hAe : va_A [(xb, .inr (0, [.ref as, .ref ar, .ref am, .int (nI bn)])), (as, .inl (cI, 10, .inl bs)), (ar, .inl (cI, 10, .inl br)), (am, .inl (cI, 1024, .inl mt))] s.heap.size = A at hD ⊢
  have hA : ∀ q : Nat, s.heap.size ≤ q → A q := fun q h => by rw [← hAe]; exact Or.inr h
  have hS : va_S A s.heap s.heap [] := va_S.rf
  have hP : va_P G vwCl [(xb, .inr (0, [.ref as, .ref ar, .ref am, .int (nI bn)])), (as, .inl (cI, 10, .inl bs)), (ar, .inl (cI, 10, .inl br)), (am, .inl (cI, 1024, .inl mt))] s.heap := hP
  have hl := lv_entry ([.ref xb, .int v, .int r]) (n := 5) (Nat.le_of_ble_eq_true rfl)
  rw [lg_entry_eq]
  generalize (lg_sl ([.ref xb, .int v, .int r]) ++ List.replicate (5 - (lg_sl ([.ref xb, .int v, .int r])).length) Slot.unset).toArray = ls at hl ⊢
  have hl : lv_has ls 5 [(0, .ref xb), (1, .int v), (2, .int r)] := hl
  have hp9 := bv_p9 hn
  refine lv_aload_n (pc := 0) hx hb dX0_include_0 rfl (lv_at hl 0 rfl) ?_
  have hPc := hP.sub (ws' := [(xb, .inr (0, [.ref as, .ref ar, .ref am, .int (nI bn)])), (as, .inl (cI, 10, .inl bs)), (ar, .inl (cI, 10, .inl br)), (am, .inl (cI, 1024, .inl mt))]) [0, 1, 2, 3] rfl
  refine bv_cSi (pc := 1) (E' := 0) (va_runV (As := []) (rest := []) ⟨hx, hb, hml, hown, hts⟩ (m_X0_isFull l G cI xb as ar am bn bs br mt (by omega)) (cwV 0 hts gX0_include_X0_isFull rfl rfl rfl (by decide +kernel) ⟨Nat.le_of_ble_eq_true rfl, Nat.le_of_ble_eq_true rfl⟩) (bv_pV hE hPc (va_recv hK hP (ci := 0) (q0 := 0) rfl rfl)) rfl rfl hl.1 rfl (lv_room (Nat.le_of_ble_eq_true rfl)) dX0_include_1 ⟨Nat.le_of_ble_eq_true rfl, Nat.le_of_ble_eq_true rfl⟩) (by rw [decide_eq_false (by omega)]; rfl) ?_
  refine lv_if_eq (pc := 4) (tgt := 8) hx hb dX0_include_4 (by decide) (fun c4_3 => ?_) (fun c4_3 => ?_)
  · refine lv_aload_n (pc := 8) hx hb dX0_include_8 rfl (lv_at hl 0 rfl) ?_
    refine va_get (pc := 9) (D := G) (ci := 0) (v := .ref as) (C := RX0) (T := TX0) (N := 4) hx hb hts hw1 hown hK hP 0 rfl rfl 0 (by decide) hw0 (fun _ h9 => h9) rfl dX0_include_9 ?_
    refine lv_aload_n (pc := 12) hx hb dX0_include_12 rfl (lv_at hl 0 rfl) ?_
    refine va_get (pc := 13) (D := G) (ci := 0) (v := .int (nI bn)) (C := RX0) (T := TX0) (N := 4) hx hb hts hw1 hown hK hP 0 rfl rfl 3 (by decide) hw2 (fun _ h9 => h9) rfl dX0_include_13 ?_
    refine lv_iload_n (pc := 16) hx hb dX0_include_16 rfl (lv_at hl 1 rfl) ?_
    have hPc := hP.sub (ws' := [(as, .inl (cI, 10, .inl bs))]) [1] rfl
    have hDc := hD.sub (ws' := [(as, .inl (cI, 10, .inl bs))]) [1] (by decide) rfl
    have hFc := va_free (wc := [(as, .inl (cI, 10, .inl bs))]) hD hS hA [1] rfl
    refine va_callv (pc := 17) (va_runSN (As := [.ref as, .int (nI bn), .int v]) (rest := []) ⟨hx, hb, hml, hown, hts⟩ (m_X3_put l G cI s.heap.size as 10 bs (nI bn) v (by decide)) ⟨va_cnB 3 hts gX0_include_X3_put_n26 rfl rfl rfl hw5 hw4 (by decide +kernel) ⟨Nat.le_of_ble_eq_true rfl, Nat.le_of_ble_eq_true rfl⟩, hw3, trivial⟩ (bv_pS hE ⟨rfl, hPc, hDc.weaken (fun _ _ _ _ => trivial)⟩) rfl rfl hl.1 rfl (lv_room (Nat.le_of_ble_eq_true rfl)) dX0_include_17 ⟨Nat.le_of_ble_eq_true rfl, Nat.le_of_ble_eq_true rfl⟩) hS (fun q _ h => hFc q h) hFc (fun u8 t8 H1 locs ht8 hvm8 e_5 hB8 hz1 hk1 hS => ?_)
    have hP1 : va_P G vwCl [(as, .inl (cI, 10, .inl (bv_put 10 bs (nI bn) v)))] H1 := by rw [← ht8]; exact hB8
    obtain ⟨hP, hD⟩ := va_join (wr := [(xb, .inr (0, [.ref as, .ref ar, .ref am, .int (nI bn)])), (ar, .inl (cI, 10, .inl br)), (am, .inl (cI, 1024, .inl mt))]) (w1 := [(as, .inl (cI, 10, .inl (bv_put 10 bs (nI bn) v)))]) hP hD [1] [0, 2, 3] rfl rfl (by decide) (by decide) hk1 hFc hP1 (bv_Dm (w0 := [(as, .inl (cI, 10, .inl bs))]) [as] rfl rfl hDc.self)
    have hP : va_P G vwCl [(xb, .inr (0, [.ref as, .ref ar, .ref am, .int (nI bn)])), (as, .inl (cI, 10, .inl (bv_put 10 bs (nI bn) v))), (ar, .inl (cI, 10, .inl br)), (am, .inl (cI, 1024, .inl mt))] H1 := hP.sub (ws' := [(xb, .inr (0, [.ref as, .ref ar, .ref am, .int (nI bn)])), (as, .inl (cI, 10, .inl (bv_put 10 bs (nI bn) v))), (ar, .inl (cI, 10, .inl br)), (am, .inl (cI, 1024, .inl mt))]) [0, 3, 1, 2] rfl
    have hD : va_D A [(xb, .inr (0, [.ref as, .ref ar, .ref am, .int (nI bn)])), (as, .inl (cI, 10, .inl (bv_put 10 bs (nI bn) v))), (ar, .inl (cI, 10, .inl br)), (am, .inl (cI, 1024, .inl mt))] := hD.sub (ws' := [(xb, .inr (0, [.ref as, .ref ar, .ref am, .int (nI bn)])), (as, .inl (cI, 10, .inl (bv_put 10 bs (nI bn) v))), (ar, .inl (cI, 10, .inl br)), (am, .inl (cI, 1024, .inl mt))]) [0, 3, 1, 2] (by decide) rfl
    generalize H1 = H at hP hS ⊢
    rw [show (bv_put 10 bs (nI bn) v) = (upd bs bn v) from bv_put_nI hn (by decide)] at hP hD
    refine lv_aload_n (pc := 20) hx hb dX0_include_20 rfl (lv_at hl 0 rfl) ?_
    refine va_get (pc := 21) (D := G) (ci := 0) (v := .ref ar) (C := RX0) (T := TX0) (N := 4) hx hb hts hw1 hown hK hP 0 rfl rfl 1 (by decide) hw6 (fun _ h9 => h9) rfl dX0_include_21 ?_
    refine lv_aload_n (pc := 24) hx hb dX0_include_24 rfl (lv_at hl 0 rfl) ?_
    refine va_get (pc := 25) (D := G) (ci := 0) (v := .int (nI bn)) (C := RX0) (T := TX0) (N := 4) hx hb hts hw1 hown hK hP 0 rfl rfl 3 (by decide) hw2 (fun _ h9 => h9) rfl dX0_include_25 ?_
    refine lv_iload_n (pc := 28) hx hb dX0_include_28 rfl (lv_at hl 2 rfl) ?_
    have hPc := hP.sub (ws' := [(ar, .inl (cI, 10, .inl br))]) [2] rfl
    have hDc := hD.sub (ws' := [(ar, .inl (cI, 10, .inl br))]) [2] (by decide) rfl
    have hFc := va_free (wc := [(ar, .inl (cI, 10, .inl br))]) hD hS hA [2] rfl
    refine va_callv (pc := 29) (va_runSN (As := [.ref ar, .int (nI bn), .int r]) (rest := []) ⟨hx, hb, hml, hown, hts⟩ (m_X3_put l G cI H.size ar 10 br (nI bn) r (by decide)) ⟨va_cnB 3 hts gX0_include_X3_put_n26 rfl rfl rfl hw5 hw4 (by decide +kernel) ⟨Nat.le_of_ble_eq_true rfl, Nat.le_of_ble_eq_true rfl⟩, hw3, trivial⟩ (bv_pS hE ⟨rfl, hPc, hDc.weaken (fun _ _ _ _ => trivial)⟩) rfl rfl hl.1 rfl (lv_room (Nat.le_of_ble_eq_true rfl)) dX0_include_29 ⟨Nat.le_of_ble_eq_true rfl, Nat.le_of_ble_eq_true rfl⟩) hS (fun q _ h => hFc q h) hFc (fun u8 t8 H1 locs ht8 hvm8 e_7 hB8 hz1 hk1 hS => ?_)
    have hP1 : va_P G vwCl [(ar, .inl (cI, 10, .inl (bv_put 10 br (nI bn) r)))] H1 := by rw [← ht8]; exact hB8
    obtain ⟨hP, hD⟩ := va_join (wr := [(xb, .inr (0, [.ref as, .ref ar, .ref am, .int (nI bn)])), (as, .inl (cI, 10, .inl (upd bs bn v))), (am, .inl (cI, 1024, .inl mt))]) (w1 := [(ar, .inl (cI, 10, .inl (bv_put 10 br (nI bn) r)))]) hP hD [2] [0, 1, 3] rfl rfl (by decide) (by decide) hk1 hFc hP1 (bv_Dm (w0 := [(ar, .inl (cI, 10, .inl br))]) [ar] rfl rfl hDc.self)
    have hP : va_P G vwCl [(xb, .inr (0, [.ref as, .ref ar, .ref am, .int (nI bn)])), (as, .inl (cI, 10, .inl (upd bs bn v))), (ar, .inl (cI, 10, .inl (bv_put 10 br (nI bn) r))), (am, .inl (cI, 1024, .inl mt))] H1 := hP.sub (ws' := [(xb, .inr (0, [.ref as, .ref ar, .ref am, .int (nI bn)])), (as, .inl (cI, 10, .inl (upd bs bn v))), (ar, .inl (cI, 10, .inl (bv_put 10 br (nI bn) r))), (am, .inl (cI, 1024, .inl mt))]) [0, 1, 3, 2] rfl
    have hD : va_D A [(xb, .inr (0, [.ref as, .ref ar, .ref am, .int (nI bn)])), (as, .inl (cI, 10, .inl (upd bs bn v))), (ar, .inl (cI, 10, .inl (bv_put 10 br (nI bn) r))), (am, .inl (cI, 1024, .inl mt))] := hD.sub (ws' := [(xb, .inr (0, [.ref as, .ref ar, .ref am, .int (nI bn)])), (as, .inl (cI, 10, .inl (upd bs bn v))), (ar, .inl (cI, 10, .inl (bv_put 10 br (nI bn) r))), (am, .inl (cI, 1024, .inl mt))]) [0, 1, 3, 2] (by decide) rfl
    generalize H1 = H at hP hS ⊢
    rw [show (bv_put 10 br (nI bn) r) = (upd br bn r) from bv_put_nI hn (by decide)] at hP hD
    refine lv_aload_n (pc := 32) hx hb dX0_include_32 rfl (lv_at hl 0 rfl) ?_
    have hPc := hP.sub (ws' := [(xb, .inr (0, [.ref as, .ref ar, .ref am, .int (nI bn)])), (as, .inl (cI, 10, .inl (upd bs bn v))), (ar, .inl (cI, 10, .inl (upd br bn r))), (am, .inl (cI, 1024, .inl mt))]) [0, 1, 2, 3] rfl
    refine bv_cSi (pc := 33) (E' := (nI (2 ^ bn))) (va_runV (As := []) (rest := []) ⟨hx, hb, hml, hown, hts⟩ (m_X0_countSets l G cI xb as ar am bn (upd bs bn v) (upd br bn r) mt (by omega)) (cwV 0 hts gX0_include_X0_countSets rfl rfl rfl (by decide +kernel) ⟨Nat.le_of_ble_eq_true rfl, Nat.le_of_ble_eq_true rfl⟩) (bv_pV hE hPc (va_recv hK hP (ci := 0) (q0 := 0) rfl rfl)) rfl rfl hl.1 rfl (lv_room (Nat.le_of_ble_eq_true rfl)) dX0_include_33 ⟨Nat.le_of_ble_eq_true rfl, Nat.le_of_ble_eq_true rfl⟩) rfl ?_
    refine lv_istore_n (pc := 36) (lv' := [(3, .int (nI (2 ^ bn))), (0, .ref xb), (1, .int v), (2, .int r)]) hx hb dX0_include_36 rfl hl (by decide) rfl (fun ls hl => ?_)
    refine lv_iconst (pc := 37) (v := 0) hx hb dX0_include_37 (by decide) ?_
    refine lv_istore (pc := 38) (lv' := [(4, .int 0), (3, .int (nI (2 ^ bn))), (0, .ref xb), (1, .int v), (2, .int r)]) hx hb dX0_include_38 hl (by decide) rfl (fun ls hl => ?_)
    have loop_40 : ∀ (fu9 : Nat) (t : Nat), 2 ^ bn - t < fu9 → (t ≤ 2 ^ bn) → ∀ (H : Heap) (locs : List Loc), va_P G vwCl [(xb, .inr (0, [.ref as, .ref ar, .ref am, .int (nI bn)])), (as, .inl (cI, 10, .inl (upd bs bn v))), (ar, .inl (cI, 10, .inl (upd br bn r))), (am, .inl (cI, 1024, .inl (bv_mx mt (2 ^ bn) v t)))] H → va_D A [(xb, .inr (0, [.ref as, .ref ar, .ref am, .int (nI bn)])), (as, .inl (cI, 10, .inl (upd bs bn v))), (ar, .inl (cI, 10, .inl (upd br bn r))), (am, .inl (cI, 1024, .inl (bv_mx mt (2 ^ bn) v t)))] → va_S A s.heap H locs → ∀ (ls : Array Slot), lv_has ls 5 [(4, .int (nI t)), (3, .int (nI (2 ^ bn))), (0, .ref xb), (1, .int v), (2, .int r)] → W p l e (headSpec wsX0_include ({ frames := 1, cells := 0, slots := 0, locals := 22 })).room s m ([.ref xb, .int v, .int r] : List Value).toArray below meth c H locs 0 0 (MQ below (va_Qv (fun _ : Unit => True) (fun (_ : Unit) (T9 : State) => va_P G vwCl [(xb, .inr (0, [.ref as, .ref ar, .ref am, .int (nI (bn + 1))])), (as, .inl (cI, 10, .inl (upd bs bn v))), (ar, .inl (cI, 10, .inl (upd br bn r))), (am, .inl (cI, 1024, .inl (bv_mx mt (2 ^ bn) v (2 ^ bn))))] T9.heap) A) ([.ref xb, .int v, .int r] : List Value).toArray s 0 0 A) (F0 m 40 ls []) := by
      intro fu9
      induction fu9 with
      | zero => intro t hfu; exact absurd hfu (Nat.not_lt_zero _)
      | succ fu9 ih =>
        intro t hfu hk H locs hP hD hS ls hl
        refine lv_iload (pc := 40) hx hb dX0_include_40 (lv_at hl 0 rfl) ?_
        refine lv_iload_n (pc := 42) hx hb dX0_include_42 rfl (lv_at hl 1 rfl) ?_
        refine lv_icmp_ge (pc := 43) (tgt := 74) hx hb dX0_include_43 (by decide) (fun c43_10 => ?_) (fun c43_10 => ?_)
        · have hkn : 2 ^ bn = t := by
            by_cases h : t < 2 ^ bn
            · exact absurd c43_10 (nI_ge h (by omega))
            · omega
          subst hkn
          refine lv_aload_n (pc := 74) hx hb dX0_include_74 rfl (lv_at hl 2 rfl) ?_
          refine lv_dup (pc := 75) hx hb dX0_include_75 rfl ?_
          refine va_get (pc := 76) (D := G) (ci := 0) (v := .int (nI bn)) (C := RX0) (T := TX0) (N := 4) hx hb hts hw1 hown hK hP 0 rfl rfl 3 (by decide) hw2 (fun _ h9 => h9) rfl dX0_include_76 ?_
          refine lv_iconst (pc := 79) (v := 1) hx hb dX0_include_79 (by decide) ?_
          refine lv_iadd (pc := 80) hx hb dX0_include_80 ?_
          rw [show ((nI bn) + 1) = (nI (bn + 1)) from nI_1 bn]
          refine va_put (pc := 81) (D := G) (ci := 0) (v := .int (nI (bn + 1))) (ty := .int) (C := RX0) (T := TX0) (N := 4) hx hb hts hw1 tyX0 tyX0_ok nmX0 hown hK hP hD hS 0 rfl rfl 3 (by decide) hw2 (fun _ h9 => h9) rfl (by decide +kernel) rfl rfl (Nat.le_of_ble_eq_true rfl) dX0_include_81 (fun H locs hP hD hS => ?_)
          have hP : va_P G vwCl [(xb, .inr (0, [.ref as, .ref ar, .ref am, .int (nI (bn + 1))])), (as, .inl (cI, 10, .inl (upd bs bn v))), (ar, .inl (cI, 10, .inl (upd br bn r))), (am, .inl (cI, 1024, .inl (bv_mx mt (2 ^ bn) v (2 ^ bn))))] H := hP
          have hD : va_D A [(xb, .inr (0, [.ref as, .ref ar, .ref am, .int (nI (bn + 1))])), (as, .inl (cI, 10, .inl (upd bs bn v))), (ar, .inl (cI, 10, .inl (upd br bn r))), (am, .inl (cI, 1024, .inl (bv_mx mt (2 ^ bn) v (2 ^ bn))))] := hD
          have hP9 : va_P G vwCl [(xb, .inr (0, [.ref as, .ref ar, .ref am, .int (nI (bn + 1))])), (as, .inl (cI, 10, .inl (upd bs bn v))), (ar, .inl (cI, 10, .inl (upd br bn r))), (am, .inl (cI, 1024, .inl (bv_mx mt (2 ^ bn) v (2 ^ bn))))] H := hP
          exact W.vret (pc := 84) hx hb hr (fun T8 hT8 hW8 => ⟨⟨(), rfl, trivial, bv_hP hT8 hP9⟩, hS.F hT8⟩) hS.2.2 dX0_include_84
        · have hkn : t < 2 ^ bn := by
            by_cases h : t < 2 ^ bn
            · exact h
            · exact absurd (nI_le (by omega) (by omega)) c43_10
          refine lv_aload_n (pc := 46) hx hb dX0_include_46 rfl (lv_at hl 2 rfl) ?_
          refine va_get (pc := 47) (D := G) (ci := 0) (v := .ref am) (C := RX0) (T := TX0) (N := 4) hx hb hts hw1 hown hK hP 0 rfl rfl 2 (by decide) hw7 (fun _ h9 => h9) rfl dX0_include_47 ?_
          refine lv_iload_n (pc := 50) hx hb dX0_include_50 rfl (lv_at hl 1 rfl) ?_
          refine lv_iload (pc := 51) hx hb dX0_include_51 (lv_at hl 0 rfl) ?_
          refine lv_iadd (pc := 53) hx hb dX0_include_53 ?_
          refine lv_aload_n (pc := 54) hx hb dX0_include_54 rfl (lv_at hl 2 rfl) ?_
          refine va_get (pc := 55) (D := G) (ci := 0) (v := .ref am) (C := RX0) (T := TX0) (N := 4) hx hb hts hw1 hown hK hP 0 rfl rfl 2 (by decide) hw7 (fun _ h9 => h9) rfl dX0_include_55 ?_
          refine lv_iload (pc := 58) hx hb dX0_include_58 (lv_at hl 0 rfl) ?_
          have hPc := hP.sub (ws' := [(am, .inl (cI, 1024, .inl (bv_mx mt (2 ^ bn) v t)))]) [3] rfl
          refine bv_cSi (pc := 60) (E' := (mt t)) (va_runSN (As := [.ref am, .int (nI t)]) (rest := [.int ((nI (2 ^ bn)) + (nI t)), .ref am]) ⟨hx, hb, hml, hown, hts⟩ (m_X3_at l G cI am 1024 (bv_mx mt (2 ^ bn) v t) (nI t) (by decide)) ⟨va_cnB 2 hts gX0_include_X3_at_n30 rfl rfl rfl hw9 hw4 (by decide +kernel) ⟨Nat.le_of_ble_eq_true rfl, Nat.le_of_ble_eq_true rfl⟩, hw8, trivial⟩ (bv_pS hE hPc) rfl rfl hl.1 rfl (lv_room (Nat.le_of_ble_eq_true rfl)) dX0_include_60 ⟨Nat.le_of_ble_eq_true rfl, Nat.le_of_ble_eq_true rfl⟩) (by rw [bv_at_nI (by omega) (by decide)]; exact bv_mx_at hkn) ?_
          refine lv_iload_n (pc := 63) hx hb dX0_include_63 rfl (lv_at hl 3 rfl) ?_
          refine lv_iand (pc := 64) hx hb dX0_include_64 ?_
          have hPc := hP.sub (ws' := [(am, .inl (cI, 1024, .inl (bv_mx mt (2 ^ bn) v t)))]) [3] rfl
          have hDc := hD.sub (ws' := [(am, .inl (cI, 1024, .inl (bv_mx mt (2 ^ bn) v t)))]) [3] (by decide) rfl
          have hFc := va_free (wc := [(am, .inl (cI, 1024, .inl (bv_mx mt (2 ^ bn) v t)))]) hD hS hA [3] rfl
          refine va_callv (pc := 65) (va_runSN (As := [.ref am, .int ((nI (2 ^ bn)) + (nI t)), .int ((mt t) &&& v)]) (rest := []) ⟨hx, hb, hml, hown, hts⟩ (m_X3_put l G cI H.size am 1024 (bv_mx mt (2 ^ bn) v t) ((nI (2 ^ bn)) + (nI t)) ((mt t) &&& v) (by decide)) ⟨va_cnB 3 hts gX0_include_X3_put_n26 rfl rfl rfl hw5 hw4 (by decide +kernel) ⟨Nat.le_of_ble_eq_true rfl, Nat.le_of_ble_eq_true rfl⟩, hw3, trivial⟩ (bv_pS hE ⟨rfl, hPc, hDc.weaken (fun _ _ _ _ => trivial)⟩) rfl rfl hl.1 rfl (lv_room (Nat.le_of_ble_eq_true rfl)) dX0_include_65 ⟨Nat.le_of_ble_eq_true rfl, Nat.le_of_ble_eq_true rfl⟩) hS (fun q _ h => hFc q h) hFc (fun u8 t8 H1 locs ht8 hvm8 e_14 hB8 hz1 hk1 hS => ?_)
          have hP1 : va_P G vwCl [(am, .inl (cI, 1024, .inl (bv_put 1024 (bv_mx mt (2 ^ bn) v t) ((nI (2 ^ bn)) + (nI t)) ((mt t) &&& v))))] H1 := by rw [← ht8]; exact hB8
          obtain ⟨hP, hD⟩ := va_join (wr := [(xb, .inr (0, [.ref as, .ref ar, .ref am, .int (nI bn)])), (as, .inl (cI, 10, .inl (upd bs bn v))), (ar, .inl (cI, 10, .inl (upd br bn r)))]) (w1 := [(am, .inl (cI, 1024, .inl (bv_put 1024 (bv_mx mt (2 ^ bn) v t) ((nI (2 ^ bn)) + (nI t)) ((mt t) &&& v))))]) hP hD [3] [0, 1, 2] rfl rfl (by decide) (by decide) hk1 hFc hP1 (bv_Dm (w0 := [(am, .inl (cI, 1024, .inl (bv_mx mt (2 ^ bn) v t)))]) [am] rfl rfl hDc.self)
          have hP : va_P G vwCl [(xb, .inr (0, [.ref as, .ref ar, .ref am, .int (nI bn)])), (as, .inl (cI, 10, .inl (upd bs bn v))), (ar, .inl (cI, 10, .inl (upd br bn r))), (am, .inl (cI, 1024, .inl (bv_put 1024 (bv_mx mt (2 ^ bn) v t) ((nI (2 ^ bn)) + (nI t)) ((mt t) &&& v))))] H1 := hP.sub (ws' := [(xb, .inr (0, [.ref as, .ref ar, .ref am, .int (nI bn)])), (as, .inl (cI, 10, .inl (upd bs bn v))), (ar, .inl (cI, 10, .inl (upd br bn r))), (am, .inl (cI, 1024, .inl (bv_put 1024 (bv_mx mt (2 ^ bn) v t) ((nI (2 ^ bn)) + (nI t)) ((mt t) &&& v))))]) [0, 1, 2, 3] rfl
          have hD : va_D A [(xb, .inr (0, [.ref as, .ref ar, .ref am, .int (nI bn)])), (as, .inl (cI, 10, .inl (upd bs bn v))), (ar, .inl (cI, 10, .inl (upd br bn r))), (am, .inl (cI, 1024, .inl (bv_put 1024 (bv_mx mt (2 ^ bn) v t) ((nI (2 ^ bn)) + (nI t)) ((mt t) &&& v))))] := hD.sub (ws' := [(xb, .inr (0, [.ref as, .ref ar, .ref am, .int (nI bn)])), (as, .inl (cI, 10, .inl (upd bs bn v))), (ar, .inl (cI, 10, .inl (upd br bn r))), (am, .inl (cI, 1024, .inl (bv_put 1024 (bv_mx mt (2 ^ bn) v t) ((nI (2 ^ bn)) + (nI t)) ((mt t) &&& v))))]) [0, 1, 2, 3] (by decide) rfl
          generalize H1 = H at hP hS ⊢
          rw [show (bv_put 1024 (bv_mx mt (2 ^ bn) v t) ((nI (2 ^ bn)) + (nI t)) ((mt t) &&& v)) = (bv_mx mt (2 ^ bn) v (t + 1)) from by rw [nI_add, bv_put_nI (by omega) (by decide)]; exact bv_mx_s] at hP hD
          refine lv_iinc (pc := 68) (v := (nI (t + 1))) (lv' := [(4, .int (nI (t + 1))), (3, .int (nI (2 ^ bn))), (0, .ref xb), (1, .int v), (2, .int r)]) hx hb dX0_include_68 hl (k := 0) rfl (nI_1 t) (by decide) rfl (fun ls hl => ?_)
          refine lv_goto (pc := 71) (tgt := 40) hx hb dX0_include_71 (by decide) ?_
          exact ih (t + 1) (by omega) (by omega) H _ hP hD hS ls (lv_sub hl [0, 1, 2, 3, 4] rfl)
    rw [← bv_mx_0 (mt := mt) (N := 2 ^ bn) (s := v)] at hP hD
    exact loop_40 (2 ^ bn - 0 + 1) 0 (Nat.lt_succ_self _) (Nat.zero_le _) H _ hP hD hS ls (lv_sub hl [0, 1, 2, 3, 4] rfl)
  · exact absurd rfl c4_3
set_option maxHeartbeats 4000000 in
set_option maxRecDepth 100000 in
theorem m_X0_remove (l : Launch) (G : va_G) (cI : ClassId) (sz : Nat) (xb as ar am bn : Nat) (bs br mt : Nat → Int32) (t : Nat) (hn : bn ≤ 10) (ht : t < 2 ^ bn) : Met l yX0_remove wsX0_remove ({ frames := 2, cells := 0, slots := 0, locals := 46 }) (bv_P [.ref xb, .int (nI t)] G cI (fun H => H.size = sz ∧ va_P G vwCl [(xb, .inr (0, [.ref as, .ref ar, .ref am, .int (nI bn)])), (as, .inl (cI, 10, .inl bs)), (ar, .inl (cI, 10, .inl br)), (am, .inl (cI, 1024, .inl mt))] H ∧ va_D (fun _ => True) [(xb, .inr (0, [.ref as, .ref ar, .ref am, .int (nI bn)])), (as, .inl (cI, 10, .inl bs)), (ar, .inl (cI, 10, .inl br)), (am, .inl (cI, 1024, .inl mt))])) (va_Qv (fun _ : Unit => True) (fun (_ : Unit) (T9 : State) => va_P G vwCl [(xb, .inr (0, [.ref as, .ref ar, .ref am, .int (nI ((bv_rm t bs br mt bn).1))])), (as, .inl (cI, 10, .inl ((bv_rm t bs br mt bn).2.1))), (ar, .inl (cI, 10, .inl ((bv_rm t bs br mt bn).2.2.1))), (am, .inl (cI, 1024, .inl ((bv_rm t bs br mt bn).2.2.2)))] T9.heap) (va_A [(xb, .inr (0, [.ref as, .ref ar, .ref am, .int (nI bn)])), (as, .inl (cI, 10, .inl bs)), (ar, .inl (cI, 10, .inl br)), (am, .inl (cI, 1024, .inl mt))] sz)) 0 0 (va_A [(xb, .inr (0, [.ref as, .ref ar, .ref am, .int (nI bn)])), (as, .inl (cI, 10, .inl bs)), (ar, .inl (cI, 10, .inl br)), (am, .inl (cI, 1024, .inl mt))] sz) := by
  refine Met.ofW (cc := cX0_remove) (maxL := 4) (ret := none) (by decide) rfl ?_
  intro p e s m args below meth c s₁ B hml hv
  obtain ⟨rfl, ⟨hsz, hP, hD0⟩, hE⟩ := hv
  have hx := B.exec
  have hb := B.bytes
  have hr := B.returns
  have hts := atoms_spec (ws := wsX0_remove) B.pre
  have hown : s.vm.findClass RX0 = some m.cls := findClass_of_methodNamed B.named
  have hlocks := B.notSynchronized
  have hK := hE.1
  have hw0 := hts (.fieldLink RX0 21 "BeliefReviser$Base" "count" "I") (List.mem_of_getElem? (i := 1) rfl)
  have hw1 : ∀ w ∈ u_ws RX0 TX0 4, w ∈ wsX0_remove := by decide +kernel
  have hw2 := hts (.static yX3_has) (List.mem_of_getElem? (i := 4) rfl)
  have hw3 := hts (.initialized RX3) (List.mem_of_getElem? (i := 5) rfl)
  have hw4 : va_Nw (.methodLinkNest RX0 48 yX3_has RX3) s := hE.2 (RX0, 48, yX3_has) (List.mem_of_getElem? (i := 4) rfl)
  have hw5 := hts (.fieldLink RX0 9 "BeliefReviser$Base" "sentences" "[I") (List.mem_of_getElem? (i := 2) rfl)
  have hw6 := hts (.static yX3_at) (List.mem_of_getElem? (i := 7) rfl)
  have hw7 : va_Nw (.methodLinkNest RX0 30 yX3_at RX3) s := hE.2 (RX0, 30, yX3_at) (List.mem_of_getElem? (i := 3) rfl)
  have hw8 := hts (.fieldLink RX0 15 "BeliefReviser$Base" "ranks" "[I") (List.mem_of_getElem? (i := 3) rfl)
  subst hsz
  have hD := hD0.self (sz := s.heap.size)
  generalize hAe : va_A [(xb, .inr (0, [.ref as, .ref ar, .ref am, .int (nI bn)])), (as, .inl (cI, 10, .inl bs)), (ar, .inl (cI, 10, .inl br)), (am, .inl (cI, 1024, .inl mt))] s.heap.size = A at hD ⊢
  have hA : ∀ q : Nat, s.heap.size ≤ q → A q := fun q h => by rw [← hAe]; exact Or.inr h
  have hS : va_S A s.heap s.heap [] := va_S.rf
  have hP : va_P G vwCl [(xb, .inr (0, [.ref as, .ref ar, .ref am, .int (nI bn)])), (as, .inl (cI, 10, .inl bs)), (ar, .inl (cI, 10, .inl br)), (am, .inl (cI, 1024, .inl mt))] s.heap := hP
  have hl := lv_entry ([.ref xb, .int (nI t)]) (n := 4) (Nat.le_of_ble_eq_true rfl)
  rw [lg_entry_eq]
  generalize (lg_sl ([.ref xb, .int (nI t)]) ++ List.replicate (4 - (lg_sl ([.ref xb, .int (nI t)])).length) Slot.unset).toArray = ls at hl ⊢
  have hl : lv_has ls 4 [(0, .ref xb), (1, .int (nI t))] := hl
  have hp10 := bv_p10 hn
  refine lv_aload_n (pc := 0) hx hb dX0_remove_0 rfl (lv_at hl 0 rfl) ?_
  refine va_get (pc := 1) (D := G) (ci := 0) (v := .int (nI bn)) (C := RX0) (T := TX0) (N := 4) hx hb hts hw1 hown hK hP 0 rfl rfl 3 (by decide) hw0 (fun _ h9 => h9) rfl dX0_remove_1 ?_
  refine lv_istore_n (pc := 4) (lv' := [(2, .int (nI bn)), (0, .ref xb), (1, .int (nI t))]) hx hb dX0_remove_4 rfl hl (by decide) rfl (fun ls hl => ?_)
  refine lv_aload_n (pc := 5) hx hb dX0_remove_5 rfl (lv_at hl 1 rfl) ?_
  refine lv_iconst (pc := 6) (v := 0) hx hb dX0_remove_6 (by decide) ?_
  refine va_put (pc := 7) (D := G) (ci := 0) (v := .int 0) (ty := .int) (C := RX0) (T := TX0) (N := 4) hx hb hts hw1 tyX0 tyX0_ok nmX0 hown hK hP hD hS 0 rfl rfl 3 (by decide) hw0 (fun _ h9 => h9) rfl (by decide +kernel) rfl rfl (Nat.le_of_ble_eq_true rfl) dX0_remove_7 (fun H locs hP hD hS => ?_)
  have hP : va_P G vwCl [(xb, .inr (0, [.ref as, .ref ar, .ref am, .int 0])), (as, .inl (cI, 10, .inl bs)), (ar, .inl (cI, 10, .inl br)), (am, .inl (cI, 1024, .inl mt))] H := hP
  have hD : va_D A [(xb, .inr (0, [.ref as, .ref ar, .ref am, .int 0])), (as, .inl (cI, 10, .inl bs)), (ar, .inl (cI, 10, .inl br)), (am, .inl (cI, 1024, .inl mt))] := hD
  refine lv_iconst (pc := 10) (v := 0) hx hb dX0_remove_10 (by decide) ?_
  refine lv_istore_n (pc := 11) (lv' := [(3, .int 0), (2, .int (nI bn)), (0, .ref xb), (1, .int (nI t))]) hx hb dX0_remove_11 rfl hl (by decide) rfl (fun ls hl => ?_)
  have loop_12 : ∀ (fu9 : Nat) (k : Nat) (z : Nat) (f1 : Nat → Int32) (f2 : Nat → Int32) (f3 : Nat → Int32), bn - k < fu9 → (k ≤ bn) → (z ≤ k) → (bv_rm t bs br mt k = (z, f1, f2, f3)) → ∀ (H : Heap) (locs : List Loc), va_P G vwCl [(xb, .inr (0, [.ref as, .ref ar, .ref am, .int (nI z)])), (as, .inl (cI, 10, .inl f1)), (ar, .inl (cI, 10, .inl f2)), (am, .inl (cI, 1024, .inl f3))] H → va_D A [(xb, .inr (0, [.ref as, .ref ar, .ref am, .int (nI z)])), (as, .inl (cI, 10, .inl f1)), (ar, .inl (cI, 10, .inl f2)), (am, .inl (cI, 1024, .inl f3))] → va_S A s.heap H locs → ∀ (ls : Array Slot), lv_has ls 4 [(3, .int (nI k)), (2, .int (nI bn)), (0, .ref xb), (1, .int (nI t))] → W p l e (headSpec wsX0_remove ({ frames := 2, cells := 0, slots := 0, locals := 46 })).room s m ([.ref xb, .int (nI t)] : List Value).toArray below meth c H locs 0 0 (MQ below (va_Qv (fun _ : Unit => True) (fun (_ : Unit) (T9 : State) => va_P G vwCl [(xb, .inr (0, [.ref as, .ref ar, .ref am, .int (nI ((bv_rm t bs br mt bn).1))])), (as, .inl (cI, 10, .inl ((bv_rm t bs br mt bn).2.1))), (ar, .inl (cI, 10, .inl ((bv_rm t bs br mt bn).2.2.1))), (am, .inl (cI, 1024, .inl ((bv_rm t bs br mt bn).2.2.2)))] T9.heap) A) ([.ref xb, .int (nI t)] : List Value).toArray s 0 0 A) (F0 m 12 ls []) := by
    intro fu9
    induction fu9 with
    | zero => intro k z f1 f2 f3 hfu; exact absurd hfu (Nat.not_lt_zero _)
    | succ fu9 ih =>
      intro k z f1 f2 f3 hfu hk hz hi H locs hP hD hS ls hl
      refine lv_iload_n (pc := 12) hx hb dX0_remove_12 rfl (lv_at hl 0 rfl) ?_
      refine lv_iload_n (pc := 13) hx hb dX0_remove_13 rfl (lv_at hl 1 rfl) ?_
      refine lv_icmp_ge (pc := 14) (tgt := 51) hx hb dX0_remove_14 (by decide) (fun c14_1 => ?_) (fun c14_1 => ?_)
      · have hkn : bn = k := by
          by_cases h : k < bn
          · exact absurd c14_1 (nI_ge h (by omega))
          · omega
        subst hkn
        have hP9 : va_P G vwCl [(xb, .inr (0, [.ref as, .ref ar, .ref am, .int (nI ((bv_rm t bs br mt bn).1))])), (as, .inl (cI, 10, .inl ((bv_rm t bs br mt bn).2.1))), (ar, .inl (cI, 10, .inl ((bv_rm t bs br mt bn).2.2.1))), (am, .inl (cI, 1024, .inl ((bv_rm t bs br mt bn).2.2.2)))] H := by rw [hi]; exact hP
        exact W.vret (pc := 51) hx hb hr (fun T8 hT8 hW8 => ⟨⟨(), rfl, trivial, bv_hP hT8 hP9⟩, hS.F hT8⟩) hS.2.2 dX0_remove_51
      · have hkn : k < bn := by
          by_cases h : k < bn
          · exact h
          · exact absurd (nI_le (by omega) (by omega)) c14_1
        refine lv_iload_n (pc := 17) hx hb dX0_remove_17 rfl (lv_at hl 3 rfl) ?_
        refine lv_iload_n (pc := 18) hx hb dX0_remove_18 rfl (lv_at hl 0 rfl) ?_
        have hPc := hP.sub (ws' := []) [] rfl
        refine bv_cSi (pc := 19) (E' := (bv_b (t.testBit k))) (va_runSN (As := [.int (nI t), .int (nI k)]) (rest := []) ⟨hx, hb, hml, hown, hts⟩ (m_X3_has l G cI (nI t) (nI k) ) ⟨va_cnB 2 hts gX0_remove_X3_has_n48 rfl rfl rfl hw4 hw3 (by decide +kernel) ⟨Nat.le_of_ble_eq_true rfl, Nat.le_of_ble_eq_true rfl⟩, hw2, trivial⟩ (bv_pS hE hPc) rfl rfl hl.1 rfl (lv_room (Nat.le_of_ble_eq_true rfl)) dX0_remove_19 ⟨Nat.le_of_ble_eq_true rfl, Nat.le_of_ble_eq_true rfl⟩) (by rw [bv_has_nI (by omega) (by omega)]) ?_
        refine lv_if_ne (pc := 22) (tgt := 45) hx hb dX0_remove_22 (by decide) (fun c22_4 => ?_) (fun c22_4 => ?_)
        · have h2 := bv_b1.mp c22_4
          refine lv_iinc (pc := 45) (v := (nI (k + 1))) (lv' := [(3, .int (nI (k + 1))), (2, .int (nI bn)), (0, .ref xb), (1, .int (nI t))]) hx hb dX0_remove_45 hl (k := 0) rfl (nI_1 k) (by decide) rfl (fun ls hl => ?_)
          refine lv_goto (pc := 48) (tgt := 12) hx hb dX0_remove_48 (by decide) ?_
          exact ih (k + 1) z f1 f2 f3 (by omega) (by omega) (by omega) (by rw [bv_rm, if_pos h2, hi]) H _ hP hD hS ls (lv_sub hl [0, 1, 2, 3] rfl)
        · have h2 := bv_b0.mp c22_4
          refine lv_aload_n (pc := 25) hx hb dX0_remove_25 rfl (lv_at hl 2 rfl) ?_
          refine lv_aload_n (pc := 26) hx hb dX0_remove_26 rfl (lv_at hl 2 rfl) ?_
          refine va_get (pc := 27) (D := G) (ci := 0) (v := .ref as) (C := RX0) (T := TX0) (N := 4) hx hb hts hw1 hown hK hP 0 rfl rfl 0 (by decide) hw5 (fun _ h9 => h9) rfl dX0_remove_27 ?_
          refine lv_iload_n (pc := 30) hx hb dX0_remove_30 rfl (lv_at hl 0 rfl) ?_
          have hPc := hP.sub (ws' := [(as, .inl (cI, 10, .inl f1))]) [1] rfl
          refine bv_cSi (pc := 31) (E' := (f1 k)) (va_runSN (As := [.ref as, .int (nI k)]) (rest := [.ref xb]) ⟨hx, hb, hml, hown, hts⟩ (m_X3_at l G cI as 10 f1 (nI k) (by decide)) ⟨va_cnB 2 hts gX0_remove_X3_at_n30 rfl rfl rfl hw7 hw3 (by decide +kernel) ⟨Nat.le_of_ble_eq_true rfl, Nat.le_of_ble_eq_true rfl⟩, hw6, trivial⟩ (bv_pS hE hPc) rfl rfl hl.1 rfl (lv_room (Nat.le_of_ble_eq_true rfl)) dX0_remove_31 ⟨Nat.le_of_ble_eq_true rfl, Nat.le_of_ble_eq_true rfl⟩) (bv_at_nI (by omega) (by decide)) ?_
          refine lv_aload_n (pc := 34) hx hb dX0_remove_34 rfl (lv_at hl 2 rfl) ?_
          refine va_get (pc := 35) (D := G) (ci := 0) (v := .ref ar) (C := RX0) (T := TX0) (N := 4) hx hb hts hw1 hown hK hP 0 rfl rfl 1 (by decide) hw8 (fun _ h9 => h9) rfl dX0_remove_35 ?_
          refine lv_iload_n (pc := 38) hx hb dX0_remove_38 rfl (lv_at hl 0 rfl) ?_
          have hPc := hP.sub (ws' := [(ar, .inl (cI, 10, .inl f2))]) [2] rfl
          refine bv_cSi (pc := 39) (E' := (f2 k)) (va_runSN (As := [.ref ar, .int (nI k)]) (rest := [.int (f1 k), .ref xb]) ⟨hx, hb, hml, hown, hts⟩ (m_X3_at l G cI ar 10 f2 (nI k) (by decide)) ⟨va_cnB 2 hts gX0_remove_X3_at_n30 rfl rfl rfl hw7 hw3 (by decide +kernel) ⟨Nat.le_of_ble_eq_true rfl, Nat.le_of_ble_eq_true rfl⟩, hw6, trivial⟩ (bv_pS hE hPc) rfl rfl hl.1 rfl (lv_room (Nat.le_of_ble_eq_true rfl)) dX0_remove_39 ⟨Nat.le_of_ble_eq_true rfl, Nat.le_of_ble_eq_true rfl⟩) (bv_at_nI (by omega) (by decide)) ?_
          have hPc := hP.sub (ws' := [(xb, .inr (0, [.ref as, .ref ar, .ref am, .int (nI z)])), (as, .inl (cI, 10, .inl f1)), (ar, .inl (cI, 10, .inl f2)), (am, .inl (cI, 1024, .inl f3))]) [0, 1, 2, 3] rfl
          have hDc := hD.sub (ws' := [(xb, .inr (0, [.ref as, .ref ar, .ref am, .int (nI z)])), (as, .inl (cI, 10, .inl f1)), (ar, .inl (cI, 10, .inl f2)), (am, .inl (cI, 1024, .inl f3))]) [0, 1, 2, 3] (by decide) rfl
          have hFc := va_free (wc := [(xb, .inr (0, [.ref as, .ref ar, .ref am, .int (nI z)])), (as, .inl (cI, 10, .inl f1)), (ar, .inl (cI, 10, .inl f2)), (am, .inl (cI, 1024, .inl f3))]) hD hS hA [0, 1, 2, 3] rfl
          refine va_callv (pc := 42) (va_runV (As := [.int (f1 k), .int (f2 k)]) (rest := []) ⟨hx, hb, hml, hown, hts⟩ (m_X0_include l G cI H.size xb as ar am z f1 f2 f3 (f1 k) (f2 k) (by omega)) (cwV 2 hts gX0_remove_X0_include rfl rfl rfl (by decide +kernel) ⟨Nat.le_of_ble_eq_true rfl, Nat.le_of_ble_eq_true rfl⟩) (bv_pV hE ⟨rfl, hPc, hDc.weaken (fun _ _ _ _ => trivial)⟩ (va_recv hK hP (ci := 0) (q0 := 0) rfl rfl)) rfl rfl hl.1 rfl (lv_room (Nat.le_of_ble_eq_true rfl)) dX0_remove_42 ⟨Nat.le_of_ble_eq_true rfl, Nat.le_of_ble_eq_true rfl⟩) hS (fun q _ h => hFc q h) hFc (fun u8 t8 H1 locs ht8 hvm8 e_10 hB8 hz1 hk1 hS => ?_)
          have hP1 : va_P G vwCl [(xb, .inr (0, [.ref as, .ref ar, .ref am, .int (nI (z + 1))])), (as, .inl (cI, 10, .inl (upd f1 z (f1 k)))), (ar, .inl (cI, 10, .inl (upd f2 z (f2 k)))), (am, .inl (cI, 1024, .inl (bv_mx f3 (2 ^ z) (f1 k) (2 ^ z))))] H1 := by rw [← ht8]; exact hB8
          obtain ⟨hP, hD⟩ := va_join (wr := []) (w1 := [(xb, .inr (0, [.ref as, .ref ar, .ref am, .int (nI (z + 1))])), (as, .inl (cI, 10, .inl (upd f1 z (f1 k)))), (ar, .inl (cI, 10, .inl (upd f2 z (f2 k)))), (am, .inl (cI, 1024, .inl (bv_mx f3 (2 ^ z) (f1 k) (2 ^ z))))]) hP hD [0, 1, 2, 3] [] rfl rfl (by decide) (by decide) hk1 hFc hP1 (bv_Dm (w0 := [(xb, .inr (0, [.ref as, .ref ar, .ref am, .int (nI z)])), (as, .inl (cI, 10, .inl f1)), (ar, .inl (cI, 10, .inl f2)), (am, .inl (cI, 1024, .inl f3))]) [xb, as, ar, am] rfl rfl hDc.self)
          have hP : va_P G vwCl [(xb, .inr (0, [.ref as, .ref ar, .ref am, .int (nI (z + 1))])), (as, .inl (cI, 10, .inl (upd f1 z (f1 k)))), (ar, .inl (cI, 10, .inl (upd f2 z (f2 k)))), (am, .inl (cI, 1024, .inl (bv_mx f3 (2 ^ z) (f1 k) (2 ^ z))))] H1 := hP.sub (ws' := [(xb, .inr (0, [.ref as, .ref ar, .ref am, .int (nI (z + 1))])), (as, .inl (cI, 10, .inl (upd f1 z (f1 k)))), (ar, .inl (cI, 10, .inl (upd f2 z (f2 k)))), (am, .inl (cI, 1024, .inl (bv_mx f3 (2 ^ z) (f1 k) (2 ^ z))))]) [0, 1, 2, 3] rfl
          have hD : va_D A [(xb, .inr (0, [.ref as, .ref ar, .ref am, .int (nI (z + 1))])), (as, .inl (cI, 10, .inl (upd f1 z (f1 k)))), (ar, .inl (cI, 10, .inl (upd f2 z (f2 k)))), (am, .inl (cI, 1024, .inl (bv_mx f3 (2 ^ z) (f1 k) (2 ^ z))))] := hD.sub (ws' := [(xb, .inr (0, [.ref as, .ref ar, .ref am, .int (nI (z + 1))])), (as, .inl (cI, 10, .inl (upd f1 z (f1 k)))), (ar, .inl (cI, 10, .inl (upd f2 z (f2 k)))), (am, .inl (cI, 1024, .inl (bv_mx f3 (2 ^ z) (f1 k) (2 ^ z))))]) [0, 1, 2, 3] (by decide) rfl
          generalize H1 = H at hP hS ⊢
          refine lv_iinc (pc := 45) (v := (nI (k + 1))) (lv' := [(3, .int (nI (k + 1))), (2, .int (nI bn)), (0, .ref xb), (1, .int (nI t))]) hx hb dX0_remove_45 hl (k := 0) rfl (nI_1 k) (by decide) rfl (fun ls hl => ?_)
          refine lv_goto (pc := 48) (tgt := 12) hx hb dX0_remove_48 (by decide) ?_
          exact ih (k + 1) (z + 1) (upd f1 z (f1 k)) (upd f2 z (f2 k)) (bv_mx f3 (2 ^ z) (f1 k) (2 ^ z)) (by omega) (by omega) (by omega) (by rw [bv_rm, if_neg (by rw [h2]; decide), hi]) H _ hP hD hS ls (lv_sub hl [0, 1, 2, 3] rfl)
  exact loop_12 (bn - 0 + 1) 0 0 bs br mt (Nat.lt_succ_self _) (Nat.zero_le _) (Nat.zero_le _) rfl H _ hP hD hS ls (lv_sub hl [0, 1, 2, 3] rfl)
