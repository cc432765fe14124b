set_option maxHeartbeats 4000000 in
set_option maxRecDepth 100000 in
theorem m_X0_rankedFrom (l : Launch) (G : va_G) (cI : ClassId) (xb as ar am bn : Nat) (bs br mt : Nat → Int32) (r : Int32) (hn : bn ≤ 10) : Met l yX0_rankedFrom wsX0_rankedFrom ({ frames := 2, cells := 0, slots := 0, locals := 42 }) (bv_P [.ref xb, .int r] G cI (fun H => va_P G vwCl [(xb, .inr (0, [.ref as, .ref ar, .ref am, .int (nI bn)])), (as, .inl (cI, 10, .inl bs)), (ar, .inl (cI, 10, .inl br)), (am, .inl (cI, 1024, .inl mt))] H)) (vp_Si (fun r9 : Int32 => r9 = (nI (bv_rf br r bn)))) 0 0 (fun _ => False) := by
  refine Met.ofW (cc := cX0_rankedFrom) (maxL := 4) (ret := (some .int)) (by decide) rfl ?_
  intro p e s m args below meth c s₁ B hml hv
  obtain ⟨rfl, hP, hE⟩ := hv
  have hx := B.exec
  have hb := B.bytes
  have hr := B.returns
  have hts := atoms_spec (ws := wsX0_rankedFrom) B.pre
  have hown : s.vm.findClass RX0 = some m.cls := findClass_of_methodNamed B.named
  have hlocks := B.notSynchronized
  have hK := hE.1
  have hw0 := hts (.fieldLink RX0 21 "BeliefReviser$Base" "count" "I") (List.mem_of_getElem? (i := 1) rfl)
  have hw1 : ∀ w ∈ u_ws RX0 TX0 4, w ∈ wsX0_rankedFrom := by decide +kernel
  have hP : va_P G vwCl [(xb, .inr (0, [.ref as, .ref ar, .ref am, .int (nI bn)])), (as, .inl (cI, 10, .inl bs)), (ar, .inl (cI, 10, .inl br)), (am, .inl (cI, 1024, .inl mt))] s.heap := hP
  have hl := lv_entry ([.ref xb, .int r]) (n := 4) (Nat.le_of_ble_eq_true rfl)
  rw [lg_entry_eq]
  generalize (lg_sl ([.ref xb, .int r]) ++ List.replicate (4 - (lg_sl ([.ref xb, .int r])).length) Slot.unset).toArray = ls at hl ⊢
  have hl : lv_has ls 4 [(0, .ref xb), (1, .int r)] := hl
  refine lv_iconst (pc := 0) (v := 0) hx hb dX0_rankedFrom_0 (by decide) ?_
  refine lv_istore_n (pc := 1) (lv' := [(2, .int 0), (0, .ref xb), (1, .int r)]) hx hb dX0_rankedFrom_1 rfl hl (by decide) rfl (fun ls hl => ?_)
  refine lv_iconst (pc := 2) (v := 0) hx hb dX0_rankedFrom_2 (by decide) ?_
  refine lv_istore_n (pc := 3) (lv' := [(3, .int 0), (2, .int 0), (0, .ref xb), (1, .int r)]) hx hb dX0_rankedFrom_3 rfl hl (by decide) rfl (fun ls hl => ?_)
  have loop_4 : ∀ (fu9 : Nat) (k : Nat) (a : Int32), bn - k < fu9 → (k ≤ bn) → (a = nI (bv_rf br r k)) → ∀ (ls : Array Slot), lv_has ls 4 [(3, .int (nI k)), (2, .int a), (0, .ref xb), (1, .int r)] → W p l e (headSpec wsX0_rankedFrom ({ frames := 2, cells := 0, slots := 0, locals := 42 })).room s m ([.ref xb, .int r] : List Value).toArray below meth c s.heap [] 0 0 (MQ below (vp_Si (fun r9 : Int32 => r9 = (nI (bv_rf br r bn)))) ([.ref xb, .int r] : List Value).toArray s 0 0 (fun _ => False)) (F0 m 4 ls []) := by
    intro fu9
    induction fu9 with
    | zero => intro k a hfu; exact absurd hfu (Nat.not_lt_zero _)
    | succ fu9 ih =>
      intro k a hfu hk hi ls hl
      refine lv_iload_n (pc := 4) hx hb dX0_rankedFrom_4 rfl (lv_at hl 0 rfl) ?_
      refine lv_aload_n (pc := 5) hx hb dX0_rankedFrom_5 rfl (lv_at hl 2 rfl) ?_
      refine va_get (pc := 6) (D := G) (ci := 0) (v := .int (nI bn)) (C := RX0) (T := TX0) (N := 4) hx hb hts hw1 hown hK hP 0 rfl rfl 3 (by decide) hw0 (fun _ h9 => h9) rfl dX0_rankedFrom_6 ?_
      refine lv_icmp_ge (pc := 9) (tgt := 33) hx hb dX0_rankedFrom_9 (by decide) (fun c9_1 => ?_) (fun c9_1 => ?_)
      · have hkn : bn = k := by
          by_cases h : k < bn
          · exact absurd c9_1 (nI_ge h (by omega))
          · omega
        subst hkn
        refine lv_iload_n (pc := 33) hx hb dX0_rankedFrom_33 rfl (lv_at hl 1 rfl) ?_
        exact W.iret (pc := 34) (v := a) hx hb hr (fun T8 hT8 hW8 => ⟨a, rfl, hi, hT8⟩) (fun _ h => nomatch h) dX0_rankedFrom_34
      · have hkn : k < bn := by
          by_cases h : k < bn
          · exact h
          · exact absurd (nI_le (by omega) (by omega)) c9_1
        refine lv_aload_n (pc := 12) hx hb dX0_rankedFrom_12 rfl (lv_at hl 2 rfl) ?_
        refine lv_iload_n (pc := 13) hx hb dX0_rankedFrom_13 rfl (lv_at hl 0 rfl) ?_
        have hPc := hP.sub (ws' := [(xb, .inr (0, [.ref as, .ref ar, .ref am, .int (nI bn)])), (as, .inl (cI, 10, .inl bs)), (ar, .inl (cI, 10, .inl br)), (am, .inl (cI, 1024, .inl mt))]) [0, 1, 2, 3] rfl
        refine bv_cSi (pc := 14) (E' := (br k)) (va_runV (As := [.int (nI k)]) (rest := []) ⟨hx, hb, hml, hown, hts⟩ (m_X0_rankAt l G cI xb as ar am bn bs br mt k (by omega)) (cwV 1 hts gX0_rankedFrom_X0_rankAt rfl rfl rfl (by decide +kernel) ⟨Nat.le_of_ble_eq_true rfl, Nat.le_of_ble_eq_true rfl⟩) (bv_pV hE hPc (va_recv hK hP (ci := 0) (q0 := 0) rfl rfl)) rfl rfl hl.1 rfl (lv_room (Nat.le_of_ble_eq_true rfl)) dX0_rankedFrom_14 ⟨Nat.le_of_ble_eq_true rfl, Nat.le_of_ble_eq_true rfl⟩) rfl ?_
        refine lv_iload_n (pc := 17) hx hb dX0_rankedFrom_17 rfl (lv_at hl 3 rfl) ?_
        refine lv_icmp_lt (pc := 18) (tgt := 27) hx hb dX0_rankedFrom_18 (by decide) (fun c18_4 => ?_) (fun c18_4 => ?_)
        · have h2 : ¬ r ≤ br k := Int32.not_le.mpr c18_4
          refine lv_iinc (pc := 27) (v := (nI (k + 1))) (lv' := [(3, .int (nI (k + 1))), (2, .int a), (0, .ref xb), (1, .int r)]) hx hb dX0_rankedFrom_27 hl (k := 0) rfl (nI_1 k) (by decide) rfl (fun ls hl => ?_)
          refine lv_goto (pc := 30) (tgt := 4) hx hb dX0_rankedFrom_30 (by decide) ?_
          exact ih (k + 1) a (by omega) (by omega) (by simp only [bv_rf, if_neg h2, hi]) ls (lv_sub hl [0, 1, 2, 3] rfl)
        · have h2 : r ≤ br k := Int32.not_lt.mp c18_4
          refine lv_iload_n (pc := 21) hx hb dX0_rankedFrom_21 rfl (lv_at hl 1 rfl) ?_
          refine lv_iconst (pc := 22) (v := 1) hx hb dX0_rankedFrom_22 (by decide) ?_
          refine lv_iload_n (pc := 23) hx hb dX0_rankedFrom_23 rfl (lv_at hl 0 rfl) ?_
          refine lv_ishl (pc := 24) hx hb dX0_rankedFrom_24 ?_
          refine lv_ior (pc := 25) hx hb dX0_rankedFrom_25 ?_
          refine lv_istore_n (pc := 26) (lv' := [(2, .int (a ||| (1 <<< ((nI k) &&& 31)))), (3, .int (nI k)), (0, .ref xb), (1, .int r)]) hx hb dX0_rankedFrom_26 rfl hl (by decide) rfl (fun ls hl => ?_)
          refine lv_iinc (pc := 27) (v := (nI (k + 1))) (lv' := [(3, .int (nI (k + 1))), (2, .int (a ||| (1 <<< ((nI k) &&& 31)))), (0, .ref xb), (1, .int r)]) hx hb dX0_rankedFrom_27 hl (k := 1) rfl (nI_1 k) (by decide) rfl (fun ls hl => ?_)
          refine lv_goto (pc := 30) (tgt := 4) hx hb dX0_rankedFrom_30 (by decide) ?_
          exact ih (k + 1) (a ||| (1 <<< ((nI k) &&& 31))) (by omega) (by omega) (by simp only [bv_rf, if_pos h2, hi]; exact bv_obit (by omega)) ls (lv_sub hl [0, 1, 2, 3] rfl)
  exact loop_4 (bn - 0 + 1) 0 0 (Nat.lt_succ_self _) (Nat.zero_le _) rfl ls (lv_sub hl [0, 1, 2, 3] rfl)
set_option maxHeartbeats 4000000 in
set_option maxRecDepth 100000 in
theorem m_X0_isFound (l : Launch) (G : va_G) (cI : ClassId) (xb as ar am bn : Nat) (bs br mt : Nat → Int32) (b : Bool) (t : Nat) (g : Int32) (hn : bn ≤ 10) (hM : ∀ t, t < 2 ^ bn → mt t = bv_wi bs t bn) (ht : t < 2 ^ bn) : Met l yX0_isFound wsX0_isFound ({ frames := 3, cells := 0, slots := 0, locals := 66 }) (bv_P [.ref xb, .int (bv_b b), .int (nI t), .int g] G cI (fun H => va_P G vwCl [(xb, .inr (0, [.ref as, .ref ar, .ref am, .int (nI bn)])), (as, .inl (cI, 10, .inl bs)), (ar, .inl (cI, 10, .inl br)), (am, .inl (cI, 1024, .inl mt))] H)) (vp_Si (fun r9 : Int32 => r9 = (bv_b (bv_is b bs bn g t)))) 0 0 (fun _ => False) := by
  refine Met.ofW (cc := cX0_isFound) (maxL := 4) (ret := (some .boolean)) (by decide) rfl ?_
  intro p e s m args below meth c s₁ B hml hv
  obtain ⟨rfl, hP, hE⟩ := hv
  have hx := B.exec
  have hb := B.bytes
  have hr := B.returns
  have hts := atoms_spec (ws := wsX0_isFound) B.pre
  have hown : s.vm.findClass RX0 = some m.cls := findClass_of_methodNamed B.named
  have hlocks := B.notSynchronized
  have hK := hE.1
  have hP : va_P G vwCl [(xb, .inr (0, [.ref as, .ref ar, .ref am, .int (nI bn)])), (as, .inl (cI, 10, .inl bs)), (ar, .inl (cI, 10, .inl br)), (am, .inl (cI, 1024, .inl mt))] s.heap := hP
  have hl := lv_entry ([.ref xb, .int (bv_b b), .int (nI t), .int g]) (n := 4) (Nat.le_of_ble_eq_true rfl)
  rw [lg_entry_eq]
  generalize (lg_sl ([.ref xb, .int (bv_b b), .int (nI t), .int g]) ++ List.replicate (4 - (lg_sl ([.ref xb, .int (bv_b b), .int (nI t), .int g])).length) Slot.unset).toArray = ls at hl ⊢
  have hl : lv_has ls 4 [(0, .ref xb), (1, .int (bv_b b)), (2, .int (nI t)), (3, .int g)] := hl
  refine lv_iload_n (pc := 0) hx hb dX0_isFound_0 rfl (lv_at hl 1 rfl) ?_
  refine lv_if_eq (pc := 1) (tgt := 13) hx hb dX0_isFound_1 (by decide) (fun c1_1 => ?_) (fun c1_1 => ?_)
  · have h1 := bv_b0.mp c1_1
    refine lv_aload_n (pc := 13) hx hb dX0_isFound_13 rfl (lv_at hl 0 rfl) ?_
    refine lv_iload_n (pc := 14) hx hb dX0_isFound_14 rfl (lv_at hl 2 rfl) ?_
    refine lv_iload_n (pc := 15) hx hb dX0_isFound_15 rfl (lv_at hl 3 rfl) ?_
    have hPc := hP.sub (ws' := [(xb, .inr (0, [.ref as, .ref ar, .ref am, .int (nI bn)])), (as, .inl (cI, 10, .inl bs)), (ar, .inl (cI, 10, .inl br)), (am, .inl (cI, 1024, .inl mt))]) [0, 1, 2, 3] rfl
    refine bv_cSi (pc := 16) (E' := (bv_b (bv_ir bs bn g t))) (va_runV (As := [.int (nI t), .int g]) (rest := []) ⟨hx, hb, hml, hown, hts⟩ (m_X0_isRemainderFor l G cI xb as ar am bn bs br mt t g hn hM ht) (cwV 2 hts gX0_isFound_X0_isRemainderFor rfl rfl rfl (by decide +kernel) ⟨Nat.le_of_ble_eq_true rfl, Nat.le_of_ble_eq_true rfl⟩) (bv_pV hE hPc (va_recv hK hP (ci := 0) (q0 := 0) rfl rfl)) rfl rfl hl.1 rfl (lv_room (Nat.le_of_ble_eq_true rfl)) dX0_isFound_16 ⟨Nat.le_of_ble_eq_true rfl, Nat.le_of_ble_eq_true rfl⟩) rfl ?_
    exact W.zret (pc := 19) (v := (bv_b (bv_ir bs bn g t))) hx hb hr (bv_nz _) (fun T8 hT8 hW8 => ⟨(bv_b (bv_ir bs bn g t)), rfl, (by rw [bv_is, h1]; rfl), hT8⟩) (fun _ h => nomatch h) dX0_isFound_19
  · have h1 := bv_b1.mp c1_1
    refine lv_aload_n (pc := 4) hx hb dX0_isFound_4 rfl (lv_at hl 0 rfl) ?_
    refine lv_iload_n (pc := 5) hx hb dX0_isFound_5 rfl (lv_at hl 2 rfl) ?_
    refine lv_iload_n (pc := 6) hx hb dX0_isFound_6 rfl (lv_at hl 3 rfl) ?_
    have hPc := hP.sub (ws' := [(xb, .inr (0, [.ref as, .ref ar, .ref am, .int (nI bn)])), (as, .inl (cI, 10, .inl bs)), (ar, .inl (cI, 10, .inl br)), (am, .inl (cI, 1024, .inl mt))]) [0, 1, 2, 3] rfl
    refine bv_cSi (pc := 7) (E' := (bv_b (bv_ik bs bn g t))) (va_runV (As := [.int (nI t), .int g]) (rest := []) ⟨hx, hb, hml, hown, hts⟩ (m_X0_isKernelFor l G cI xb as ar am bn bs br mt t g hn hM ht) (cwV 2 hts gX0_isFound_X0_isKernelFor rfl rfl rfl (by decide +kernel) ⟨Nat.le_of_ble_eq_true rfl, Nat.le_of_ble_eq_true rfl⟩) (bv_pV hE hPc (va_recv hK hP (ci := 0) (q0 := 0) rfl rfl)) rfl rfl hl.1 rfl (lv_room (Nat.le_of_ble_eq_true rfl)) dX0_isFound_7 ⟨Nat.le_of_ble_eq_true rfl, Nat.le_of_ble_eq_true rfl⟩) rfl ?_
    refine lv_goto (pc := 10) (tgt := 19) hx hb dX0_isFound_10 (by decide) ?_
    exact W.zret (pc := 19) (v := (bv_b (bv_ik bs bn g t))) hx hb hr (bv_nz _) (fun T8 hT8 hW8 => ⟨(bv_b (bv_ik bs bn g t)), rfl, (by rw [bv_is, h1]; rfl), hT8⟩) (fun _ h => nomatch h) dX0_isFound_19
set_option maxHeartbeats 4000000 in
set_option maxRecDepth 100000 in
theorem m_X0_countFound (l : Launch) (G : va_G) (cI : ClassId) (xb as ar am bn : Nat) (bs br mt : Nat → Int32) (b : Bool) (g : Int32) (hn : bn ≤ 10) (hM : ∀ t, t < 2 ^ bn → mt t = bv_wi bs t bn) : Met l yX0_countFound wsX0_countFound ({ frames := 4, cells := 0, slots := 0, locals := 89 }) (bv_P [.ref xb, .int (bv_b b), .int g] G cI (fun H => va_P G vwCl [(xb, .inr (0, [.ref as, .ref ar, .ref am, .int (nI bn)])), (as, .inl (cI, 10, .inl bs)), (ar, .inl (cI, 10, .inl br)), (am, .inl (cI, 1024, .inl mt))] H)) (vp_Si (fun r9 : Int32 => r9 = (nI (bv_cnt (bv_is b bs bn g) (2 ^ bn))))) 0 0 (fun _ => False) := by
  refine Met.ofW (cc := cX0_countFound) (maxL := 6) (ret := (some .int)) (by decide) rfl ?_
  intro p e s m args below meth c s₁ B hml hv
  obtain ⟨rfl, hP, hE⟩ := hv
  have hx := B.exec
  have hb := B.bytes
  have hr := B.returns
  have hts := atoms_spec (ws := wsX0_countFound) B.pre
  have hown : s.vm.findClass RX0 = some m.cls := findClass_of_methodNamed B.named
  have hlocks := B.notSynchronized
  have hK := hE.1
  have hP : va_P G vwCl [(xb, .inr (0, [.ref as, .ref ar, .ref am, .int (nI bn)])), (as, .inl (cI, 10, .inl bs)), (ar, .inl (cI, 10, .inl br)), (am, .inl (cI, 1024, .inl mt))] s.heap := hP
  have hl := lv_entry ([.ref xb, .int (bv_b b), .int g]) (n := 6) (Nat.le_of_ble_eq_true rfl)
  rw [lg_entry_eq]
  generalize (lg_sl ([.ref xb, .int (bv_b b), .int g]) ++ List.replicate (6 - (lg_sl ([.ref xb, .int (bv_b b), .int g])).length) Slot.unset).toArray = ls at hl ⊢
  have hl : lv_has ls 6 [(0, .ref xb), (1, .int (bv_b b)), (2, .int g)] := hl
  have hp10 := bv_p10 hn
  refine lv_aload_n (pc := 0) hx hb dX0_countFound_0 rfl (lv_at hl 0 rfl) ?_
  have hPc := hP.sub (ws' := [(xb, .inr (0, [.ref as, .ref ar, .ref am, .int (nI bn)])), (as, .inl (cI, 10, .inl bs)), (ar, .inl (cI, 10, .inl br)), (am, .inl (cI, 1024, .inl mt))]) [0, 1, 2, 3] rfl
  refine bv_cSi (pc := 1) (E' := (nI (2 ^ bn))) (va_runV (As := []) (rest := []) ⟨hx, hb, hml, hown, hts⟩ (m_X0_countSets l G cI xb as ar am bn bs br mt hn) (cwV 0 hts gX0_countFound_X0_countSets rfl rfl rfl (by decide +kernel) ⟨Nat.le_of_ble_eq_true rfl, Nat.le_of_ble_eq_true rfl⟩) (bv_pV hE hPc (va_recv hK hP (ci := 0) (q0 := 0) rfl rfl)) rfl rfl hl.1 rfl (lv_room (Nat.le_of_ble_eq_true rfl)) dX0_countFound_1 ⟨Nat.le_of_ble_eq_true rfl, Nat.le_of_ble_eq_true rfl⟩) rfl ?_
  refine lv_istore_n (pc := 4) (lv' := [(3, .int (nI (2 ^ bn))), (0, .ref xb), (1, .int (bv_b b)), (2, .int g)]) hx hb dX0_countFound_4 rfl hl (by decide) rfl (fun ls hl => ?_)
  refine lv_iconst (pc := 5) (v := 0) hx hb dX0_countFound_5 (by decide) ?_
  refine lv_istore (pc := 6) (lv' := [(4, .int 0), (3, .int (nI (2 ^ bn))), (0, .ref xb), (1, .int (bv_b b)), (2, .int g)]) hx hb dX0_countFound_6 hl (by decide) rfl (fun ls hl => ?_)
  refine lv_iconst (pc := 8) (v := 0) hx hb dX0_countFound_8 (by decide) ?_
  refine lv_istore (pc := 9) (lv' := [(5, .int 0), (4, .int 0), (3, .int (nI (2 ^ bn))), (0, .ref xb), (1, .int (bv_b b)), (2, .int g)]) hx hb dX0_countFound_9 hl (by decide) rfl (fun ls hl => ?_)
  have loop_11 : ∀ (fu9 : Nat) (t : Nat) (a : Int32), 2 ^ bn - t < fu9 → (t ≤ 2 ^ bn) → (a = nI (bv_cnt (bv_is b bs bn g) t)) → ∀ (ls : Array Slot), lv_has ls 6 [(5, .int (nI t)), (4, .int a), (3, .int (nI (2 ^ bn))), (0, .ref xb), (1, .int (bv_b b)), (2, .int g)] → W p l e (headSpec wsX0_countFound ({ frames := 4, cells := 0, slots := 0, locals := 89 })).room s m ([.ref xb, .int (bv_b b), .int g] : List Value).toArray below meth c s.heap [] 0 0 (MQ below (vp_Si (fun r9 : Int32 => r9 = (nI (bv_cnt (bv_is b bs bn g) (2 ^ bn))))) ([.ref xb, .int (bv_b b), .int g] : List Value).toArray s 0 0 (fun _ => False)) (F0 m 11 ls []) := by
    intro fu9
    induction fu9 with
    | zero => intro t a hfu; exact absurd hfu (Nat.not_lt_zero _)
    | succ fu9 ih =>
      intro t a hfu hk hi ls hl
      refine lv_iload (pc := 11) hx hb dX0_countFound_11 (lv_at hl 0 rfl) ?_
      refine lv_iload_n (pc := 13) hx hb dX0_countFound_13 rfl (lv_at hl 2 rfl) ?_
      refine lv_icmp_ge (pc := 14) (tgt := 37) hx hb dX0_countFound_14 (by decide) (fun c14_3 => ?_) (fun c14_3 => ?_)
      · have hkn : 2 ^ bn = t := by
          by_cases h : t < 2 ^ bn
          · exact absurd c14_3 (nI_ge h (by omega))
          · omega
        subst hkn
        refine lv_iload (pc := 37) hx hb dX0_countFound_37 (lv_at hl 1 rfl) ?_
        exact W.iret (pc := 39) (v := a) hx hb hr (fun T8 hT8 hW8 => ⟨a, rfl, hi, hT8⟩) (fun _ h => nomatch h) dX0_countFound_39
      · have hkn : t < 2 ^ bn := by
          by_cases h : t < 2 ^ bn
          · exact h
          · exact absurd (nI_le (by omega) (by omega)) c14_3
        refine lv_aload_n (pc := 17) hx hb dX0_countFound_17 rfl (lv_at hl 3 rfl) ?_
        refine lv_iload_n (pc := 18) hx hb dX0_countFound_18 rfl (lv_at hl 4 rfl) ?_
        refine lv_iload (pc := 19) hx hb dX0_countFound_19 (lv_at hl 0 rfl) ?_
        refine lv_iload_n (pc := 21) hx hb dX0_countFound_21 rfl (lv_at hl 5 rfl) ?_
        have hPc := hP.sub (ws' := [(xb, .inr (0, [.ref as, .ref ar, .ref am, .int (nI bn)])), (as, .inl (cI, 10, .inl bs)), (ar, .inl (cI, 10, .inl br)), (am, .inl (cI, 1024, .inl mt))]) [0, 1, 2, 3] rfl
        refine bv_cSi (pc := 22) (E' := (bv_b (bv_is b bs bn g t))) (va_runV (As := [.int (bv_b b), .int (nI t), .int g]) (rest := []) ⟨hx, hb, hml, hown, hts⟩ (m_X0_isFound l G cI xb as ar am bn bs br mt b t g hn hM hkn) (cwV 3 hts gX0_countFound_X0_isFound rfl rfl rfl (by decide +kernel) ⟨Nat.le_of_ble_eq_true rfl, Nat.le_of_ble_eq_true rfl⟩) (bv_pV hE hPc (va_recv hK hP (ci := 0) (q0 := 0) rfl rfl)) rfl rfl hl.1 rfl (lv_room (Nat.le_of_ble_eq_true rfl)) dX0_countFound_22 ⟨Nat.le_of_ble_eq_true rfl, Nat.le_of_ble_eq_true rfl⟩) rfl ?_
        refine lv_if_eq (pc := 25) (tgt := 31) hx hb dX0_countFound_25 (by decide) (fun c25_6 => ?_) (fun c25_6 => ?_)
        · have h2 := bv_b0.mp c25_6
          refine lv_iinc (pc := 31) (v := (nI (t + 1))) (lv' := [(5, .int (nI (t + 1))), (4, .int a), (3, .int (nI (2 ^ bn))), (0, .ref xb), (1, .int (bv_b b)), (2, .int g)]) hx hb dX0_countFound_31 hl (k := 0) rfl (nI_1 t) (by decide) rfl (fun ls hl => ?_)
          refine lv_goto (pc := 34) (tgt := 11) hx hb dX0_countFound_34 (by decide) ?_
          exact ih (t + 1) a (by omega) (by omega) (by simp only [bv_cnt, h2, hi]; rfl) ls (lv_sub hl [0, 1, 2, 3, 4, 5] rfl)
        · have h2 := bv_b1.mp c25_6
          refine lv_iinc (pc := 28) (v := (a + 1)) (lv' := [(4, .int (a + 1)), (5, .int (nI t)), (3, .int (nI (2 ^ bn))), (0, .ref xb), (1, .int (bv_b b)), (2, .int g)]) hx hb dX0_countFound_28 hl (k := 1) rfl (rfl) (by decide) rfl (fun ls hl => ?_)
          refine lv_iinc (pc := 31) (v := (nI (t + 1))) (lv' := [(5, .int (nI (t + 1))), (4, .int (a + 1)), (3, .int (nI (2 ^ bn))), (0, .ref xb), (1, .int (bv_b b)), (2, .int g)]) hx hb dX0_countFound_31 hl (k := 1) rfl (nI_1 t) (by decide) rfl (fun ls hl => ?_)
          refine lv_goto (pc := 34) (tgt := 11) hx hb dX0_countFound_34 (by decide) ?_
          exact ih (t + 1) (a + 1) (by omega) (by omega) (by simp only [bv_cnt, if_pos h2, hi]; exact nI_1 _) ls (lv_sub hl [0, 1, 2, 3, 4, 5] rfl)
  exact loop_11 (2 ^ bn - 0 + 1) 0 0 (Nat.lt_succ_self _) (Nat.zero_le _) rfl ls (lv_sub hl [0, 1, 2, 3, 4, 5] rfl)
set_option maxHeartbeats 4000000 in
set_option maxRecDepth 100000 in
theorem m_X0_findAt (l : Launch) (G : va_G) (cI : ClassId) (xb as ar am bn : Nat) (bs br mt : Nat → Int32) (b : Bool) (g : Int32) (ix : Int32) (hn : bn ≤ 10) (hM : ∀ t, t < 2 ^ bn → mt t = bv_wi bs t bn) : Met l yX0_findAt wsX0_findAt ({ frames := 4, cells := 0, slots := 0, locals := 89 }) (bv_P [.ref xb, .int (bv_b b), .int g, .int ix] G cI (fun H => va_P G vwCl [(xb, .inr (0, [.ref as, .ref ar, .ref am, .int (nI bn)])), (as, .inl (cI, 10, .inl bs)), (ar, .inl (cI, 10, .inl br)), (am, .inl (cI, 1024, .inl mt))] H)) (vp_Si (fun r9 : Int32 => r9 = (bv_oI (bv_fnd (bv_is b bs bn g) ix (2 ^ bn))))) 0 0 (fun _ => False) := by
  refine Met.ofW (cc := cX0_findAt) (maxL := 7) (ret := (some .int)) (by decide) rfl ?_
  intro p e s m args below meth c s₁ B hml hv
  obtain ⟨rfl, hP, hE⟩ := hv
  have hx := B.exec
  have hb := B.bytes
  have hr := B.returns
  have hts := atoms_spec (ws := wsX0_findAt) B.pre
  have hown : s.vm.findClass RX0 = some m.cls := findClass_of_methodNamed B.named
  have hlocks := B.notSynchronized
  have hK := hE.1
  have hP : va_P G vwCl [(xb, .inr (0, [.ref as, .ref ar, .ref am, .int (nI bn)])), (as, .inl (cI, 10, .inl bs)), (ar, .inl (cI, 10, .inl br)), (am, .inl (cI, 1024, .inl mt))] s.heap := hP
  have hl := lv_entry ([.ref xb, .int (bv_b b), .int g, .int ix]) (n := 7) (Nat.le_of_ble_eq_true rfl)
  rw [lg_entry_eq]
  generalize (lg_sl ([.ref xb, .int (bv_b b), .int g, .int ix]) ++ List.replicate (7 - (lg_sl ([.ref xb, .int (bv_b b), .int g, .int ix])).length) Slot.unset).toArray = ls at hl ⊢
  have hl : lv_has ls 7 [(0, .ref xb), (1, .int (bv_b b)), (2, .int g), (3, .int ix)] := hl
  have hp10 := bv_p10 hn
  refine lv_aload_n (pc := 0) hx hb dX0_findAt_0 rfl (lv_at hl 0 rfl) ?_
  have hPc := hP.sub (ws' := [(xb, .inr (0, [.ref as, .ref ar, .ref am, .int (nI bn)])), (as, .inl (cI, 10, .inl bs)), (ar, .inl (cI, 10, .inl br)), (am, .inl (cI, 1024, .inl mt))]) [0, 1, 2, 3] rfl
  refine bv_cSi (pc := 1) (E' := (nI (2 ^ bn))) (va_runV (As := []) (rest := []) ⟨hx, hb, hml, hown, hts⟩ (m_X0_countSets l G cI xb as ar am bn bs br mt hn) (cwV 0 hts gX0_findAt_X0_countSets rfl rfl rfl (by decide +kernel) ⟨Nat.le_of_ble_eq_true rfl, Nat.le_of_ble_eq_true rfl⟩) (bv_pV hE hPc (va_recv hK hP (ci := 0) (q0 := 0) rfl rfl)) rfl rfl hl.1 rfl (lv_room (Nat.le_of_ble_eq_true rfl)) dX0_findAt_1 ⟨Nat.le_of_ble_eq_true rfl, Nat.le_of_ble_eq_true rfl⟩) rfl ?_
  refine lv_istore (pc := 4) (lv' := [(4, .int (nI (2 ^ bn))), (0, .ref xb), (1, .int (bv_b b)), (2, .int g), (3, .int ix)]) hx hb dX0_findAt_4 hl (by decide) rfl (fun ls hl => ?_)
  refine lv_iconst (pc := 6) (v := 0) hx hb dX0_findAt_6 (by decide) ?_
  refine lv_istore (pc := 7) (lv' := [(5, .int 0), (4, .int (nI (2 ^ bn))), (0, .ref xb), (1, .int (bv_b b)), (2, .int g), (3, .int ix)]) hx hb dX0_findAt_7 hl (by decide) rfl (fun ls hl => ?_)
  refine lv_iconst (pc := 9) (v := 0) hx hb dX0_findAt_9 (by decide) ?_
  refine lv_istore (pc := 10) (lv' := [(6, .int 0), (5, .int 0), (4, .int (nI (2 ^ bn))), (0, .ref xb), (1, .int (bv_b b)), (2, .int g), (3, .int ix)]) hx hb dX0_findAt_10 hl (by decide) rfl (fun ls hl => ?_)
  have loop_12 : ∀ (fu9 : Nat) (t : Nat) (a : Int32), 2 ^ bn - t < fu9 → (t ≤ 2 ^ bn) → (a = nI (bv_cnt (bv_is b bs bn g) t)) → (bv_fnd (bv_is b bs bn g) ix t = none) → ∀ (ls : Array Slot), lv_has ls 7 [(6, .int (nI t)), (5, .int a), (4, .int (nI (2 ^ bn))), (0, .ref xb), (1, .int (bv_b b)), (2, .int g), (3, .int ix)] → W p l e (headSpec wsX0_findAt ({ frames := 4, cells := 0, slots := 0, locals := 89 })).room s m ([.ref xb, .int (bv_b b), .int g, .int ix] : List Value).toArray below meth c s.heap [] 0 0 (MQ below (vp_Si (fun r9 : Int32 => r9 = (bv_oI (bv_fnd (bv_is b bs bn g) ix (2 ^ bn))))) ([.ref xb, .int (bv_b b), .int g, .int ix] : List Value).toArray s 0 0 (fun _ => False)) (F0 m 12 ls []) := by
    intro fu9
    induction fu9 with
    | zero => intro t a hfu; exact absurd hfu (Nat.not_lt_zero _)
    | succ fu9 ih =>
      intro t a hfu hk hi hf ls hl
      refine lv_iload (pc := 12) hx hb dX0_findAt_12 (lv_at hl 0 rfl) ?_
      refine lv_iload (pc := 14) hx hb dX0_findAt_14 (lv_at hl 2 rfl) ?_
      refine lv_icmp_ge (pc := 16) (tgt := 48) hx hb dX0_findAt_16 (by decide) (fun c16_3 => ?_) (fun c16_3 => ?_)
      · have hkn : 2 ^ bn = t := by
          by_cases h : t < 2 ^ bn
          · exact absurd c16_3 (nI_ge h (by omega))
          · omega
        subst hkn
        refine lv_iconst (pc := 48) (v := (-1)) hx hb dX0_findAt_48 (by decide) ?_
        exact W.iret (pc := 49) (v := (-1)) hx hb hr (fun T8 hT8 hW8 => ⟨(-1), rfl, (by rw [hf]; rfl), hT8⟩) (fun _ h => nomatch h) dX0_findAt_49
      · have hkn : t < 2 ^ bn := by
          by_cases h : t < 2 ^ bn
          · exact h
          · exact absurd (nI_le (by omega) (by omega)) c16_3
        refine lv_aload_n (pc := 19) hx hb dX0_findAt_19 rfl (lv_at hl 3 rfl) ?_
        refine lv_iload_n (pc := 20) hx hb dX0_findAt_20 rfl (lv_at hl 4 rfl) ?_
        refine lv_iload (pc := 21) hx hb dX0_findAt_21 (lv_at hl 0 rfl) ?_
        refine lv_iload_n (pc := 23) hx hb dX0_findAt_23 rfl (lv_at hl 5 rfl) ?_
        have hPc := hP.sub (ws' := [(xb, .inr (0, [.ref as, .ref ar, .ref am, .int (nI bn)])), (as, .inl (cI, 10, .inl bs)), (ar, .inl (cI, 10, .inl br)), (am, .inl (cI, 1024, .inl mt))]) [0, 1, 2, 3] rfl
        refine bv_cSi (pc := 24) (E' := (bv_b (bv_is b bs bn g t))) (va_runV (As := [.int (bv_b b), .int (nI t), .int g]) (rest := []) ⟨hx, hb, hml, hown, hts⟩ (m_X0_isFound l G cI xb as ar am bn bs br mt b t g hn hM hkn) (cwV 3 hts gX0_findAt_X0_isFound rfl rfl rfl (by decide +kernel) ⟨Nat.le_of_ble_eq_true rfl, Nat.le_of_ble_eq_true rfl⟩) (bv_pV hE hPc (va_recv hK hP (ci := 0) (q0 := 0) rfl rfl)) rfl rfl hl.1 rfl (lv_room (Nat.le_of_ble_eq_true rfl)) dX0_findAt_24 ⟨Nat.le_of_ble_eq_true rfl, Nat.le_of_ble_eq_true rfl⟩) rfl ?_
        refine lv_if_eq (pc := 27) (tgt := 42) hx hb dX0_findAt_27 (by decide) (fun c27_6 => ?_) (fun c27_6 => ?_)
        · have h2 := bv_b0.mp c27_6
          refine lv_iinc (pc := 42) (v := (nI (t + 1))) (lv' := [(6, .int (nI (t + 1))), (5, .int a), (4, .int (nI (2 ^ bn))), (0, .ref xb), (1, .int (bv_b b)), (2, .int g), (3, .int ix)]) hx hb dX0_findAt_42 hl (k := 0) rfl (nI_1 t) (by decide) rfl (fun ls hl => ?_)
          refine lv_goto (pc := 45) (tgt := 12) hx hb dX0_findAt_45 (by decide) ?_
          exact ih (t + 1) a (by omega) (by omega) (by simp only [bv_cnt, h2, hi]; rfl) (by simp only [bv_fnd, hf]; rw [if_neg (fun h => by rw [h2] at h; exact absurd h.1 (by decide))]) ls (lv_sub hl [0, 1, 2, 3, 4, 5, 6] rfl)
        · have h2 := bv_b1.mp c27_6
          refine lv_iload (pc := 30) hx hb dX0_findAt_30 (lv_at hl 1 rfl) ?_
          refine lv_iload_n (pc := 32) hx hb dX0_findAt_32 rfl (lv_at hl 6 rfl) ?_
          refine lv_icmp_ne (pc := 33) (tgt := 39) hx hb dX0_findAt_33 (by decide) (fun c33_7 => ?_) (fun c33_7 => ?_)
          · have h3 := c33_7
            refine lv_iinc (pc := 39) (v := (a + 1)) (lv' := [(5, .int (a + 1)), (6, .int (nI t)), (4, .int (nI (2 ^ bn))), (0, .ref xb), (1, .int (bv_b b)), (2, .int g), (3, .int ix)]) hx hb dX0_findAt_39 hl (k := 1) rfl (rfl) (by decide) rfl (fun ls hl => ?_)
            refine lv_iinc (pc := 42) (v := (nI (t + 1))) (lv' := [(6, .int (nI (t + 1))), (5, .int (a + 1)), (4, .int (nI (2 ^ bn))), (0, .ref xb), (1, .int (bv_b b)), (2, .int g), (3, .int ix)]) hx hb dX0_findAt_42 hl (k := 1) rfl (nI_1 t) (by decide) rfl (fun ls hl => ?_)
            refine lv_goto (pc := 45) (tgt := 12) hx hb dX0_findAt_45 (by decide) ?_
            exact ih (t + 1) (a + 1) (by omega) (by omega) (by simp only [bv_cnt, if_pos h2, hi]; exact nI_1 _) (by simp only [bv_fnd, hf]; rw [if_neg (fun h => h3 (by rw [hi]; exact h.2))]) ls (lv_sub hl [0, 1, 2, 3, 4, 5, 6] rfl)
          · have h3 := c33_7
            refine lv_iload (pc := 36) hx hb dX0_findAt_36 (lv_at hl 0 rfl) ?_
            exact W.iret (pc := 38) (v := (nI t)) hx hb hr (fun T8 hT8 hW8 => ⟨(nI t), rfl, (by rw [bv_fnd_hit hf h2 (by rw [← hi]; exact h3) hkn]; rfl), hT8⟩) (fun _ h => nomatch h) dX0_findAt_38
  exact loop_12 (2 ^ bn - 0 + 1) 0 0 (Nat.lt_succ_self _) (Nat.zero_le _) rfl rfl ls (lv_sub hl [0, 1, 2, 3, 4, 5, 6] rfl)
set_option maxHeartbeats 4000000 in
set_option maxRecDepth 100000 in
theorem m_X0_weight (l : Launch) (G : va_G) (cI : ClassId) (xb as ar am bn : Nat) (bs br mt : Nat → Int32) (t : Nat) (hn : bn ≤ 10) (ht : t < 2 ^ bn) : Met l yX0_weight wsX0_weight ({ frames := 2, cells := 0, slots := 0, locals := 42 }) (bv_P [.ref xb, .int (nI t)] G cI (fun H => va_P G vwCl [(xb, .inr (0, [.ref as, .ref ar, .ref am, .int (nI bn)])), (as, .inl (cI, 10, .inl bs)), (ar, .inl (cI, 10, .inl br)), (am, .inl (cI, 1024, .inl mt))] H)) (vp_Sl (fun r9 : Int64 => r9 = (bv_wt br t bn))) 0 0 (fun _ => False) := by
  refine Met.ofW (cc := cX0_weight) (maxL := 5) (ret := (some .long)) (by decide) rfl ?_
  intro p e s m args below meth c s₁ B hml hv
  obtain ⟨rfl, hP, hE⟩ := hv
  have hx := B.exec
  have hb := B.bytes
  have hr := B.returns
  have hts := atoms_spec (ws := wsX0_weight) B.pre
  have hown : s.vm.findClass RX0 = some m.cls := findClass_of_methodNamed B.named
  have hlocks := B.notSynchronized
  have hK := hE.1
  have hw0 := hts (.fieldLink RX0 21 "BeliefReviser$Base" "count" "I") (List.mem_of_getElem? (i := 1) rfl)
  have hw1 : ∀ w ∈ u_ws RX0 TX0 4, w ∈ wsX0_weight := by decide +kernel
  have hw2 := hts (.static yX3_has) (List.mem_of_getElem? (i := 2) rfl)
  have hw3 := hts (.initialized RX3) (List.mem_of_getElem? (i := 3) rfl)
  have hw4 : va_Nw (.methodLinkNest RX0 48 yX3_has RX3) s := hE.2 (RX0, 48, yX3_has) (List.mem_of_getElem? (i := 4) rfl)
  have hP : va_P G vwCl [(xb, .inr (0, [.ref as, .ref ar, .ref am, .int (nI bn)])), (as, .inl (cI, 10, .inl bs)), (ar, .inl (cI, 10, .inl br)), (am, .inl (cI, 1024, .inl mt))] s.heap := hP
  have hl := lv_entry ([.ref xb, .int (nI t)]) (n := 5) (Nat.le_of_ble_eq_true rfl)
  rw [lg_entry_eq]
  generalize (lg_sl ([.ref xb, .int (nI t)]) ++ List.replicate (5 - (lg_sl ([.ref xb, .int (nI t)])).length) Slot.unset).toArray = ls at hl ⊢
  have hl : lv_has ls 5 [(0, .ref xb), (1, .int (nI t))] := hl
  have hp10 := bv_p10 hn
  refine lv_lconst (pc := 0) (v := 0) hx hb dX0_weight_0 (by decide) ?_
  refine lv_lstore_n (pc := 1) (lv' := [(2, .long 0), (0, .ref xb), (1, .int (nI t))]) hx hb dX0_weight_1 rfl hl (by decide) rfl (fun ls hl => ?_)
  refine lv_iconst (pc := 2) (v := 0) hx hb dX0_weight_2 (by decide) ?_
  refine lv_istore (pc := 3) (lv' := [(4, .int 0), (2, .long 0), (0, .ref xb), (1, .int (nI t))]) hx hb dX0_weight_3 hl (by decide) rfl (fun ls hl => ?_)
  have loop_5 : ∀ (fu9 : Nat) (k : Nat) (a : Int64), bn - k < fu9 → (k ≤ bn) → (a = bv_wt br t k) → ∀ (ls : Array Slot), lv_has ls 5 [(4, .int (nI k)), (2, .long a), (0, .ref xb), (1, .int (nI t))] → W p l e (headSpec wsX0_weight ({ frames := 2, cells := 0, slots := 0, locals := 42 })).room s m ([.ref xb, .int (nI t)] : List Value).toArray below meth c s.heap [] 0 0 (MQ below (vp_Sl (fun r9 : Int64 => r9 = (bv_wt br t bn))) ([.ref xb, .int (nI t)] : List Value).toArray s 0 0 (fun _ => False)) (F0 m 5 ls []) := by
    intro fu9
    induction fu9 with
    | zero => intro k a hfu; exact absurd hfu (Nat.not_lt_zero _)
    | succ fu9 ih =>
      intro k a hfu hk hi ls hl
      refine lv_iload (pc := 5) hx hb dX0_weight_5 (lv_at hl 0 rfl) ?_
      refine lv_aload_n (pc := 7) hx hb dX0_weight_7 rfl (lv_at hl 2 rfl) ?_
      refine va_get (pc := 8) (D := G) (ci := 0) (v := .int (nI bn)) (C := RX0) (T := TX0) (N := 4) hx hb hts hw1 hown hK hP 0 rfl rfl 3 (by decide) hw0 (fun _ h9 => h9) rfl dX0_weight_8 ?_
      refine lv_icmp_ge (pc := 11) (tgt := 42) hx hb dX0_weight_11 (by decide) (fun c11_1 => ?_) (fun c11_1 => ?_)
      · have hkn : bn = k := by
          by_cases h : k < bn
          · exact absurd c11_1 (nI_ge h (by omega))
          · omega
        subst hkn
        refine lv_lload_n (pc := 42) hx hb dX0_weight_42 rfl (lv_at hl 1 rfl) ?_
        exact W.lret (pc := 43) (v := a) hx hb hr (fun T8 hT8 hW8 => ⟨a, rfl, hi, hT8⟩) (fun _ h => nomatch h) dX0_weight_43
      · have hkn : k < bn := by
          by_cases h : k < bn
          · exact h
          · exact absurd (nI_le (by omega) (by omega)) c11_1
        refine lv_iload_n (pc := 14) hx hb dX0_weight_14 rfl (lv_at hl 3 rfl) ?_
        refine lv_iload (pc := 15) hx hb dX0_weight_15 (lv_at hl 0 rfl) ?_
        have hPc := hP.sub (ws' := []) [] rfl
        refine bv_cSi (pc := 17) (E' := (bv_b (t.testBit k))) (va_runSN (As := [.int (nI t), .int (nI k)]) (rest := []) ⟨hx, hb, hml, hown, hts⟩ (m_X3_has l G cI (nI t) (nI k) ) ⟨va_cnB 2 hts gX0_weight_X3_has_n48 rfl rfl rfl hw4 hw3 (by decide +kernel) ⟨Nat.le_of_ble_eq_true rfl, Nat.le_of_ble_eq_true rfl⟩, hw2, trivial⟩ (bv_pS hE hPc) rfl rfl hl.1 rfl (lv_room (Nat.le_of_ble_eq_true rfl)) dX0_weight_17 ⟨Nat.le_of_ble_eq_true rfl, Nat.le_of_ble_eq_true rfl⟩) (by rw [bv_has_nI (by omega) (by omega)]) ?_
        refine lv_if_eq (pc := 20) (tgt := 36) hx hb dX0_weight_20 (by decide) (fun c20_4 => ?_) (fun c20_4 => ?_)
        · have h2 := bv_b0.mp c20_4
          refine lv_iinc (pc := 36) (v := (nI (k + 1))) (lv' := [(4, .int (nI (k + 1))), (2, .long a), (0, .ref xb), (1, .int (nI t))]) hx hb dX0_weight_36 hl (k := 0) rfl (nI_1 k) (by decide) rfl (fun ls hl => ?_)
          refine lv_goto (pc := 39) (tgt := 5) hx hb dX0_weight_39 (by decide) ?_
          exact ih (k + 1) a (by omega) (by omega) (by simp only [bv_wt, h2, hi]; rfl) ls (lv_sub hl [0, 1, 2, 3] rfl)
        · have h2 := bv_b1.mp c20_4
          refine lv_lload_n (pc := 23) hx hb dX0_weight_23 rfl (lv_at hl 1 rfl) ?_
          refine lv_lconst (pc := 24) (v := 1) hx hb dX0_weight_24 (by decide) ?_
          refine lv_iconst (pc := 25) (v := 4) hx hb dX0_weight_25 (by decide) ?_
          refine lv_aload_n (pc := 26) hx hb dX0_weight_26 rfl (lv_at hl 2 rfl) ?_
          refine lv_iload (pc := 27) hx hb dX0_weight_27 (lv_at hl 0 rfl) ?_
          have hPc := hP.sub (ws' := [(xb, .inr (0, [.ref as, .ref ar, .ref am, .int (nI bn)])), (as, .inl (cI, 10, .inl bs)), (ar, .inl (cI, 10, .inl br)), (am, .inl (cI, 1024, .inl mt))]) [0, 1, 2, 3] rfl
          refine bv_cSi (pc := 29) (E' := (br k)) (va_runV (As := [.int (nI k)]) (rest := [.int 4, .long 1, .long a]) ⟨hx, hb, hml, hown, hts⟩ (m_X0_rankAt l G cI xb as ar am bn bs br mt k (by omega)) (cwV 1 hts gX0_weight_X0_rankAt rfl rfl rfl (by decide +kernel) ⟨Nat.le_of_ble_eq_true rfl, Nat.le_of_ble_eq_true rfl⟩) (bv_pV hE hPc (va_recv hK hP (ci := 0) (q0 := 0) rfl rfl)) rfl rfl hl.1 rfl (lv_room (Nat.le_of_ble_eq_true rfl)) dX0_weight_29 ⟨Nat.le_of_ble_eq_true rfl, Nat.le_of_ble_eq_true rfl⟩) rfl ?_
          refine lv_imul (pc := 32) hx hb dX0_weight_32 ?_
          refine lv_lshl (pc := 33) (v := (1 <<< (((4 * (br k)) : Int32).toInt64 &&& 63))) hx hb dX0_weight_33 rfl ?_
          refine lv_ladd (pc := 34) hx hb dX0_weight_34 ?_
          refine lv_lstore_n (pc := 35) (lv' := [(2, .long (a + (1 <<< (((4 * (br k)) : Int32).toInt64 &&& 63)))), (4, .int (nI k)), (0, .ref xb), (1, .int (nI t))]) hx hb dX0_weight_35 rfl hl (by decide) rfl (fun ls hl => ?_)
          refine lv_iinc (pc := 36) (v := (nI (k + 1))) (lv' := [(4, .int (nI (k + 1))), (2, .long (a + (1 <<< (((4 * (br k)) : Int32).toInt64 &&& 63)))), (0, .ref xb), (1, .int (nI t))]) hx hb dX0_weight_36 hl (k := 1) rfl (nI_1 k) (by decide) rfl (fun ls hl => ?_)
          refine lv_goto (pc := 39) (tgt := 5) hx hb dX0_weight_39 (by decide) ?_
          exact ih (k + 1) (a + (1 <<< (((4 * (br k)) : Int32).toInt64 &&& 63))) (by omega) (by omega) (by simp only [bv_wt, if_pos h2, hi]) ls (lv_sub hl [0, 1, 2, 3] rfl)
  exact loop_5 (bn - 0 + 1) 0 0 (Nat.lt_succ_self _) (Nat.zero_le _) rfl ls (lv_sub hl [0, 1, 2, 3] rfl)
set_option maxHeartbeats 4000000 in
set_option maxRecDepth 100000 in
theorem m_X0_leastRanked (l : Launch) (G : va_G) (cI : ClassId) (xb as ar am bn : Nat) (bs br mt : Nat → Int32) (t : Nat) (hn : bn ≤ 10) (ht : t < 2 ^ bn) : Met l yX0_leastRanked wsX0_leastRanked ({ frames := 3, cells := 0, slots := 0, locals := 65 }) (bv_P [.ref xb, .int (nI t)] G cI (fun H => va_P G vwCl [(xb, .inr (0, [.ref as, .ref ar, .ref am, .int (nI bn)])), (as, .inl (cI, 10, .inl bs)), (ar, .inl (cI, 10, .inl br)), (am, .inl (cI, 1024, .inl mt))] H)) (vp_Si (fun r9 : Int32 => r9 = (bv_lr br bn t))) 0 0 (fun _ => False) := by
  refine Met.ofW (cc := cX0_leastRanked) (maxL := 4) (ret := (some .int)) (by decide) rfl ?_
  intro p e s m args below meth c s₁ B hml hv
  obtain ⟨rfl, hP, hE⟩ := hv
  have hx := B.exec
  have hb := B.bytes
  have hr := B.returns
  have hts := atoms_spec (ws := wsX0_leastRanked) B.pre
  have hown : s.vm.findClass RX0 = some m.cls := findClass_of_methodNamed B.named
  have hlocks := B.notSynchronized
  have hK := hE.1
  have hw0 := hts (.fieldLink RX0 21 "BeliefReviser$Base" "count" "I") (List.mem_of_getElem? (i := 1) rfl)
  have hw1 : ∀ w ∈ u_ws RX0 TX0 4, w ∈ wsX0_leastRanked := by decide +kernel
  have hw2 := hts (.static yX3_has) (List.mem_of_getElem? (i := 6) rfl)
  have hw3 := hts (.initialized RX3) (List.mem_of_getElem? (i := 7) rfl)
  have hw4 : va_Nw (.methodLinkNest RX0 48 yX3_has RX3) s := hE.2 (RX0, 48, yX3_has) (List.mem_of_getElem? (i := 4) rfl)
  have hw5 := hts (.methodLink RX0 83 Lib.Math.min.name) (List.mem_of_getElem? (i := 2) rfl)
  have hw6 := hts (.static Lib.Math.min.name) (List.mem_of_getElem? (i := 3) rfl)
  have hw7 := hts (.initialized "java/lang/Math") (List.mem_of_getElem? (i := 4) rfl)
  have hw8 := hts (.code Lib.Math.min.name Lib.Math.min.code 2 (some .int)) (List.mem_of_getElem? (i := 5) rfl)
  have hP : va_P G vwCl [(xb, .inr (0, [.ref as, .ref ar, .ref am, .int (nI bn)])), (as, .inl (cI, 10, .inl bs)), (ar, .inl (cI, 10, .inl br)), (am, .inl (cI, 1024, .inl mt))] s.heap := hP
  have hl := lv_entry ([.ref xb, .int (nI t)]) (n := 4) (Nat.le_of_ble_eq_true rfl)
  rw [lg_entry_eq]
  generalize (lg_sl ([.ref xb, .int (nI t)]) ++ List.replicate (4 - (lg_sl ([.ref xb, .int (nI t)])).length) Slot.unset).toArray = ls at hl ⊢
  have hl : lv_has ls 4 [(0, .ref xb), (1, .int (nI t))] := hl
  have hp10 := bv_p10 hn
  refine lv_bipush (pc := 0) (v := 9) hx hb dX0_leastRanked_0 (by decide) ?_
  refine lv_istore_n (pc := 2) (lv' := [(2, .int 9), (0, .ref xb), (1, .int (nI t))]) hx hb dX0_leastRanked_2 rfl hl (by decide) rfl (fun ls hl => ?_)
  refine lv_iconst (pc := 3) (v := 0) hx hb dX0_leastRanked_3 (by decide) ?_
  refine lv_istore_n (pc := 4) (lv' := [(3, .int 0), (2, .int 9), (0, .ref xb), (1, .int (nI t))]) hx hb dX0_leastRanked_4 rfl hl (by decide) rfl (fun ls hl => ?_)
  have loop_5 : ∀ (fu9 : Nat) (k : Nat) (a : Int32), bn - k < fu9 → (k ≤ bn) → (a = bv_lst br t k) → ∀ (ls : Array Slot), lv_has ls 4 [(3, .int (nI k)), (2, .int a), (0, .ref xb), (1, .int (nI t))] → W p l e (headSpec wsX0_leastRanked ({ frames := 3, cells := 0, slots := 0, locals := 65 })).room s m ([.ref xb, .int (nI t)] : List Value).toArray below meth c s.heap [] 0 0 (MQ below (vp_Si (fun r9 : Int32 => r9 = (bv_lr br bn t))) ([.ref xb, .int (nI t)] : List Value).toArray s 0 0 (fun _ => False)) (F0 m 5 ls []) := by
    intro fu9
    induction fu9 with
    | zero => intro k a hfu; exact absurd hfu (Nat.not_lt_zero _)
    | succ fu9 ih =>
      intro k a hfu hk hi ls hl
      refine lv_iload_n (pc := 5) hx hb dX0_leastRanked_5 rfl (lv_at hl 0 rfl) ?_
      refine lv_aload_n (pc := 6) hx hb dX0_leastRanked_6 rfl (lv_at hl 2 rfl) ?_
      refine va_get (pc := 7) (D := G) (ci := 0) (v := .int (nI bn)) (C := RX0) (T := TX0) (N := 4) hx hb hts hw1 hown hK hP 0 rfl rfl 3 (by decide) hw0 (fun _ h9 => h9) rfl dX0_leastRanked_7 ?_
      refine lv_icmp_ge (pc := 10) (tgt := 37) hx hb dX0_leastRanked_10 (by decide) (fun c10_1 => ?_) (fun c10_1 => ?_)
      · have hkn : bn = k := by
          by_cases h : k < bn
          · exact absurd c10_1 (nI_ge h (by omega))
          · omega
        subst hkn
        refine lv_iload_n (pc := 37) hx hb dX0_leastRanked_37 rfl (lv_at hl 3 rfl) ?_
        refine lv_aload_n (pc := 38) hx hb dX0_leastRanked_38 rfl (lv_at hl 2 rfl) ?_
        refine lv_iload_n (pc := 39) hx hb dX0_leastRanked_39 rfl (lv_at hl 1 rfl) ?_
        refine lv_iconst (pc := 40) (v := 1) hx hb dX0_leastRanked_40 (by decide) ?_
        refine lv_iadd (pc := 41) hx hb dX0_leastRanked_41 ?_
        have hPc := hP.sub (ws' := [(xb, .inr (0, [.ref as, .ref ar, .ref am, .int (nI bn)])), (as, .inl (cI, 10, .inl bs)), (ar, .inl (cI, 10, .inl br)), (am, .inl (cI, 1024, .inl mt))]) [0, 1, 2, 3] rfl
        refine bv_cSi (pc := 42) (E' := (nI (bv_rf br (a + 1) bn))) (va_runV (As := [.int (a + 1)]) (rest := [.int (nI t)]) ⟨hx, hb, hml, hown, hts⟩ (m_X0_rankedFrom l G cI xb as ar am bn bs br mt (a + 1) hn) (cwV 1 hts gX0_leastRanked_X0_rankedFrom rfl rfl rfl (by decide +kernel) ⟨Nat.le_of_ble_eq_true rfl, Nat.le_of_ble_eq_true rfl⟩) (bv_pV hE hPc (va_recv hK hP (ci := 0) (q0 := 0) rfl rfl)) rfl rfl hl.1 rfl (lv_room (Nat.le_of_ble_eq_true rfl)) dX0_leastRanked_42 ⟨Nat.le_of_ble_eq_true rfl, Nat.le_of_ble_eq_true rfl⟩) rfl ?_
        refine lv_iconst (pc := 45) (v := (-1)) hx hb dX0_leastRanked_45 (by decide) ?_
        refine lv_ixor (pc := 46) hx hb dX0_leastRanked_46 ?_
        refine lv_iand (pc := 47) hx hb dX0_leastRanked_47 ?_
        exact W.iret (pc := 48) (v := ((nI t) &&& ((nI (bv_rf br (a + 1) bn)) ^^^ (-1)))) hx hb hr (fun T8 hT8 hW8 => ⟨((nI t) &&& ((nI (bv_rf br (a + 1) bn)) ^^^ (-1))), rfl, (by rw [bv_lr, hi]), hT8⟩) (fun _ h => nomatch h) dX0_leastRanked_48
      · have hkn : k < bn := by
          by_cases h : k < bn
          · exact h
          · exact absurd (nI_le (by omega) (by omega)) c10_1
        refine lv_iload_n (pc := 13) hx hb dX0_leastRanked_13 rfl (lv_at hl 3 rfl) ?_
        refine lv_iload_n (pc := 14) hx hb dX0_leastRanked_14 rfl (lv_at hl 0 rfl) ?_
        have hPc := hP.sub (ws' := []) [] rfl
        refine bv_cSi (pc := 15) (E' := (bv_b (t.testBit k))) (va_runSN (As := [.int (nI t), .int (nI k)]) (rest := []) ⟨hx, hb, hml, hown, hts⟩ (m_X3_has l G cI (nI t) (nI k) ) ⟨va_cnB 2 hts gX0_leastRanked_X3_has_n48 rfl rfl rfl hw4 hw3 (by decide +kernel) ⟨Nat.le_of_ble_eq_true rfl, Nat.le_of_ble_eq_true rfl⟩, hw2, trivial⟩ (bv_pS hE hPc) rfl rfl hl.1 rfl (lv_room (Nat.le_of_ble_eq_true rfl)) dX0_leastRanked_15 ⟨Nat.le_of_ble_eq_true rfl, Nat.le_of_ble_eq_true rfl⟩) (by rw [bv_has_nI (by omega) (by omega)]) ?_
        refine lv_if_eq (pc := 18) (tgt := 31) hx hb dX0_leastRanked_18 (by decide) (fun c18_6 => ?_) (fun c18_6 => ?_)
        · have h2 := bv_b0.mp c18_6
          refine lv_iinc (pc := 31) (v := (nI (k + 1))) (lv' := [(3, .int (nI (k + 1))), (2, .int a), (0, .ref xb), (1, .int (nI t))]) hx hb dX0_leastRanked_31 hl (k := 0) rfl (nI_1 k) (by decide) rfl (fun ls hl => ?_)
          refine lv_goto (pc := 34) (tgt := 5) hx hb dX0_leastRanked_34 (by decide) ?_
          exact ih (k + 1) a (by omega) (by omega) (by simp only [bv_lst, h2, hi]; rfl) ls (lv_sub hl [0, 1, 2, 3] rfl)
        · have h2 := bv_b1.mp c18_6
          refine lv_iload_n (pc := 21) hx hb dX0_leastRanked_21 rfl (lv_at hl 1 rfl) ?_
          refine lv_aload_n (pc := 22) hx hb dX0_leastRanked_22 rfl (lv_at hl 2 rfl) ?_
          refine lv_iload_n (pc := 23) hx hb dX0_leastRanked_23 rfl (lv_at hl 0 rfl) ?_
          have hPc := hP.sub (ws' := [(xb, .inr (0, [.ref as, .ref ar, .ref am, .int (nI bn)])), (as, .inl (cI, 10, .inl bs)), (ar, .inl (cI, 10, .inl br)), (am, .inl (cI, 1024, .inl mt))]) [0, 1, 2, 3] rfl
          refine bv_cSi (pc := 24) (E' := (br k)) (va_runV (As := [.int (nI k)]) (rest := [.int a]) ⟨hx, hb, hml, hown, hts⟩ (m_X0_rankAt l G cI xb as ar am bn bs br mt k (by omega)) (cwV 1 hts gX0_leastRanked_X0_rankAt rfl rfl rfl (by decide +kernel) ⟨Nat.le_of_ble_eq_true rfl, Nat.le_of_ble_eq_true rfl⟩) (bv_pV hE hPc (va_recv hK hP (ci := 0) (q0 := 0) rfl rfl)) rfl rfl hl.1 rfl (lv_room (Nat.le_of_ble_eq_true rfl)) dX0_leastRanked_24 ⟨Nat.le_of_ble_eq_true rfl, Nat.le_of_ble_eq_true rfl⟩) rfl ?_
          refine va_mmin (pc := 27) hx hb (hml.trans hl.1.symm) hown hw5 hw6 hw7 hw8 (Nat.le_of_ble_eq_true rfl) (Nat.le_of_ble_eq_true rfl) (Nat.le_of_ble_eq_true rfl) (Nat.le_of_ble_eq_true rfl) dX0_leastRanked_27 ?_
          rw [show (if (br k) < a then (br k) else a) = (bv_min a (br k)) from rfl]
          refine lv_istore_n (pc := 30) (lv' := [(2, .int (bv_min a (br k))), (3, .int (nI k)), (0, .ref xb), (1, .int (nI t))]) hx hb dX0_leastRanked_30 rfl hl (by decide) rfl (fun ls hl => ?_)
          refine lv_iinc (pc := 31) (v := (nI (k + 1))) (lv' := [(3, .int (nI (k + 1))), (2, .int (bv_min a (br k))), (0, .ref xb), (1, .int (nI t))]) hx hb dX0_leastRanked_31 hl (k := 1) rfl (nI_1 k) (by decide) rfl (fun ls hl => ?_)
          refine lv_goto (pc := 34) (tgt := 5) hx hb dX0_leastRanked_34 (by decide) ?_
          exact ih (k + 1) (bv_min a (br k)) (by omega) (by omega) (by simp only [bv_lst, if_pos h2, hi]) ls (lv_sub hl [0, 1, 2, 3] rfl)
  exact loop_5 (bn - 0 + 1) 0 9 (Nat.lt_succ_self _) (Nat.zero_le _) rfl ls (lv_sub hl [0, 1, 2, 3] rfl)
