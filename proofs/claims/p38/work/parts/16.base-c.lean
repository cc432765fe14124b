set_option maxHeartbeats 4000000 in
set_option maxRecDepth 100000 in
theorem m_X0_cutFor (l : Launch) (G : va_G) (cI : ClassId) (xb as ar am bn : Nat) (bs br mt : Nat → Int32) (g : Int32) (hn : bn ≤ 10) (hM : ∀ t, t < 2 ^ bn → mt t = bv_wi bs t bn) : Met l yX0_cutFor wsX0_cutFor ({ frames := 4, cells := 0, slots := 0, locals := 88 }) (bv_P [.ref xb, .int g] G cI (fun H => va_P G vwCl [(xb, .inr (0, [.ref as, .ref ar, .ref am, .int (nI bn)])), (as, .inl (cI, 10, .inl bs)), (ar, .inl (cI, 10, .inl br)), (am, .inl (cI, 1024, .inl mt))] H)) (vp_Si (fun r9 : Int32 => r9 = (bv_cut (bv_ik bs bn g) (bv_lr br bn) (2 ^ bn)))) 0 0 (fun _ => False) := by
  refine Met.ofW (cc := cX0_cutFor) (maxL := 5) (ret := (some .int)) (by decide) rfl ?_
  intro p e s m args below meth c s₁ B hml hv
  obtain ⟨rfl, hP, hE⟩ := hv
  have hx := B.exec
  have hb := B.bytes
  have hr := B.returns
  have hts := atoms_spec (ws := wsX0_cutFor) B.pre
  have hown : s.vm.findClass RX0 = some m.cls := findClass_of_methodNamed B.named
  have hlocks := B.notSynchronized
  have hK := hE.1
  have hP : va_P G vwCl [(xb, .inr (0, [.ref as, .ref ar, .ref am, .int (nI bn)])), (as, .inl (cI, 10, .inl bs)), (ar, .inl (cI, 10, .inl br)), (am, .inl (cI, 1024, .inl mt))] s.heap := hP
  have hl := lv_entry ([.ref xb, .int g]) (n := 5) (Nat.le_of_ble_eq_true rfl)
  rw [lg_entry_eq]
  generalize (lg_sl ([.ref xb, .int g]) ++ List.replicate (5 - (lg_sl ([.ref xb, .int g])).length) Slot.unset).toArray = ls at hl ⊢
  have hl : lv_has ls 5 [(0, .ref xb), (1, .int g)] := hl
  have hp10 := bv_p10 hn
  refine lv_aload_n (pc := 0) hx hb dX0_cutFor_0 rfl (lv_at hl 0 rfl) ?_
  have hPc := hP.sub (ws' := [(xb, .inr (0, [.ref as, .ref ar, .ref am, .int (nI bn)])), (as, .inl (cI, 10, .inl bs)), (ar, .inl (cI, 10, .inl br)), (am, .inl (cI, 1024, .inl mt))]) [0, 1, 2, 3] rfl
  refine bv_cSi (pc := 1) (E' := (nI (2 ^ bn))) (va_runV (As := []) (rest := []) ⟨hx, hb, hml, hown, hts⟩ (m_X0_countSets l G cI xb as ar am bn bs br mt hn) (cwV 0 hts gX0_cutFor_X0_countSets rfl rfl rfl (by decide +kernel) ⟨Nat.le_of_ble_eq_true rfl, Nat.le_of_ble_eq_true rfl⟩) (bv_pV hE hPc (va_recv hK hP (ci := 0) (q0 := 0) rfl rfl)) rfl rfl hl.1 rfl (lv_room (Nat.le_of_ble_eq_true rfl)) dX0_cutFor_1 ⟨Nat.le_of_ble_eq_true rfl, Nat.le_of_ble_eq_true rfl⟩) rfl ?_
  refine lv_istore_n (pc := 4) (lv' := [(2, .int (nI (2 ^ bn))), (0, .ref xb), (1, .int g)]) hx hb dX0_cutFor_4 rfl hl (by decide) rfl (fun ls hl => ?_)
  refine lv_iconst (pc := 5) (v := 0) hx hb dX0_cutFor_5 (by decide) ?_
  refine lv_istore_n (pc := 6) (lv' := [(3, .int 0), (2, .int (nI (2 ^ bn))), (0, .ref xb), (1, .int g)]) hx hb dX0_cutFor_6 rfl hl (by decide) rfl (fun ls hl => ?_)
  refine lv_iconst (pc := 7) (v := 0) hx hb dX0_cutFor_7 (by decide) ?_
  refine lv_istore (pc := 8) (lv' := [(4, .int 0), (3, .int 0), (2, .int (nI (2 ^ bn))), (0, .ref xb), (1, .int g)]) hx hb dX0_cutFor_8 hl (by decide) rfl (fun ls hl => ?_)
  have loop_10 : ∀ (fu9 : Nat) (t : Nat) (a : Int32), 2 ^ bn - t < fu9 → (t ≤ 2 ^ bn) → (a = bv_cut (bv_ik bs bn g) (bv_lr br bn) t) → ∀ (ls : Array Slot), lv_has ls 5 [(4, .int (nI t)), (3, .int a), (2, .int (nI (2 ^ bn))), (0, .ref xb), (1, .int g)] → W p l e (headSpec wsX0_cutFor ({ frames := 4, cells := 0, slots := 0, locals := 88 })).room s m ([.ref xb, .int g] : List Value).toArray below meth c s.heap [] 0 0 (MQ below (vp_Si (fun r9 : Int32 => r9 = (bv_cut (bv_ik bs bn g) (bv_lr br bn) (2 ^ bn)))) ([.ref xb, .int g] : List Value).toArray s 0 0 (fun _ => False)) (F0 m 10 ls []) := by
    intro fu9
    induction fu9 with
    | zero => intro t a hfu; exact absurd hfu (Nat.not_lt_zero _)
    | succ fu9 ih =>
      intro t a hfu hk hi ls hl
      refine lv_iload (pc := 10) hx hb dX0_cutFor_10 (lv_at hl 0 rfl) ?_
      refine lv_iload_n (pc := 12) hx hb dX0_cutFor_12 rfl (lv_at hl 2 rfl) ?_
      refine lv_icmp_ge (pc := 13) (tgt := 41) hx hb dX0_cutFor_13 (by decide) (fun c13_3 => ?_) (fun c13_3 => ?_)
      · have hkn : 2 ^ bn = t := by
          by_cases h : t < 2 ^ bn
          · exact absurd c13_3 (nI_ge h (by omega))
          · omega
        subst hkn
        refine lv_iload_n (pc := 41) hx hb dX0_cutFor_41 rfl (lv_at hl 1 rfl) ?_
        exact W.iret (pc := 42) (v := a) hx hb hr (fun T8 hT8 hW8 => ⟨a, rfl, hi, hT8⟩) (fun _ h => nomatch h) dX0_cutFor_42
      · have hkn : t < 2 ^ bn := by
          by_cases h : t < 2 ^ bn
          · exact h
          · exact absurd (nI_le (by omega) (by omega)) c13_3
        refine lv_aload_n (pc := 16) hx hb dX0_cutFor_16 rfl (lv_at hl 3 rfl) ?_
        refine lv_iload (pc := 17) hx hb dX0_cutFor_17 (lv_at hl 0 rfl) ?_
        refine lv_iload_n (pc := 19) hx hb dX0_cutFor_19 rfl (lv_at hl 4 rfl) ?_
        have hPc := hP.sub (ws' := [(xb, .inr (0, [.ref as, .ref ar, .ref am, .int (nI bn)])), (as, .inl (cI, 10, .inl bs)), (ar, .inl (cI, 10, .inl br)), (am, .inl (cI, 1024, .inl mt))]) [0, 1, 2, 3] rfl
        refine bv_cSi (pc := 20) (E' := (bv_b (bv_ik bs bn g t))) (va_runV (As := [.int (nI t), .int g]) (rest := []) ⟨hx, hb, hml, hown, hts⟩ (m_X0_isKernelFor l G cI xb as ar am bn bs br mt t g hn hM hkn) (cwV 2 hts gX0_cutFor_X0_isKernelFor rfl rfl rfl (by decide +kernel) ⟨Nat.le_of_ble_eq_true rfl, Nat.le_of_ble_eq_true rfl⟩) (bv_pV hE hPc (va_recv hK hP (ci := 0) (q0 := 0) rfl rfl)) rfl rfl hl.1 rfl (lv_room (Nat.le_of_ble_eq_true rfl)) dX0_cutFor_20 ⟨Nat.le_of_ble_eq_true rfl, Nat.le_of_ble_eq_true rfl⟩) rfl ?_
        refine lv_if_eq (pc := 23) (tgt := 35) hx hb dX0_cutFor_23 (by decide) (fun c23_6 => ?_) (fun c23_6 => ?_)
        · have h2 := bv_b0.mp c23_6
          refine lv_iinc (pc := 35) (v := (nI (t + 1))) (lv' := [(4, .int (nI (t + 1))), (3, .int a), (2, .int (nI (2 ^ bn))), (0, .ref xb), (1, .int g)]) hx hb dX0_cutFor_35 hl (k := 0) rfl (nI_1 t) (by decide) rfl (fun ls hl => ?_)
          refine lv_goto (pc := 38) (tgt := 10) hx hb dX0_cutFor_38 (by decide) ?_
          exact ih (t + 1) a (by omega) (by omega) (by simp only [bv_cut, h2, hi]; rfl) ls (lv_sub hl [0, 1, 2, 3, 4] rfl)
        · have h2 := bv_b1.mp c23_6
          refine lv_iload_n (pc := 26) hx hb dX0_cutFor_26 rfl (lv_at hl 1 rfl) ?_
          refine lv_aload_n (pc := 27) hx hb dX0_cutFor_27 rfl (lv_at hl 3 rfl) ?_
          refine lv_iload (pc := 28) hx hb dX0_cutFor_28 (lv_at hl 0 rfl) ?_
          have hPc := hP.sub (ws' := [(xb, .inr (0, [.ref as, .ref ar, .ref am, .int (nI bn)])), (as, .inl (cI, 10, .inl bs)), (ar, .inl (cI, 10, .inl br)), (am, .inl (cI, 1024, .inl mt))]) [0, 1, 2, 3] rfl
          refine bv_cSi (pc := 30) (E' := (bv_lr br bn t)) (va_runV (As := [.int (nI t)]) (rest := [.int a]) ⟨hx, hb, hml, hown, hts⟩ (m_X0_leastRanked l G cI xb as ar am bn bs br mt t hn hkn) (cwV 1 hts gX0_cutFor_X0_leastRanked rfl rfl rfl (by decide +kernel) ⟨Nat.le_of_ble_eq_true rfl, Nat.le_of_ble_eq_true rfl⟩) (bv_pV hE hPc (va_recv hK hP (ci := 0) (q0 := 0) rfl rfl)) rfl rfl hl.1 rfl (lv_room (Nat.le_of_ble_eq_true rfl)) dX0_cutFor_30 ⟨Nat.le_of_ble_eq_true rfl, Nat.le_of_ble_eq_true rfl⟩) rfl ?_
          refine lv_ior (pc := 33) hx hb dX0_cutFor_33 ?_
          refine lv_istore_n (pc := 34) (lv' := [(3, .int (a ||| (bv_lr br bn t))), (4, .int (nI t)), (2, .int (nI (2 ^ bn))), (0, .ref xb), (1, .int g)]) hx hb dX0_cutFor_34 rfl hl (by decide) rfl (fun ls hl => ?_)
          refine lv_iinc (pc := 35) (v := (nI (t + 1))) (lv' := [(4, .int (nI (t + 1))), (3, .int (a ||| (bv_lr br bn t))), (2, .int (nI (2 ^ bn))), (0, .ref xb), (1, .int g)]) hx hb dX0_cutFor_35 hl (k := 1) rfl (nI_1 t) (by decide) rfl (fun ls hl => ?_)
          refine lv_goto (pc := 38) (tgt := 10) hx hb dX0_cutFor_38 (by decide) ?_
          exact ih (t + 1) (a ||| (bv_lr br bn t)) (by omega) (by omega) (by simp only [bv_cut, if_pos h2, hi]) ls (lv_sub hl [0, 1, 2, 3, 4] rfl)
  exact loop_10 (2 ^ bn - 0 + 1) 0 0 (Nat.lt_succ_self _) (Nat.zero_le _) rfl ls (lv_sub hl [0, 1, 2, 3, 4] rfl)
set_option maxHeartbeats 4000000 in
set_option maxRecDepth 100000 in
theorem m_X0_greatestRankFalseIn (l : Launch) (G : va_G) (cI : ClassId) (xb as ar am bn : Nat) (bs br mt : Nat → Int32) (wd : Int32) (hn : bn ≤ 10) : Met l yX0_greatestRankFalseIn wsX0_greatestRankFalseIn ({ frames := 2, cells := 0, slots := 0, locals := 42 }) (bv_P [.ref xb, .int wd] G cI (fun H => va_P G vwCl [(xb, .inr (0, [.ref as, .ref ar, .ref am, .int (nI bn)])), (as, .inl (cI, 10, .inl bs)), (ar, .inl (cI, 10, .inl br)), (am, .inl (cI, 1024, .inl mt))] H)) (vp_Si (fun r9 : Int32 => r9 = (bv_gr bs br wd bn))) 0 0 (fun _ => False) := by
  refine Met.ofW (cc := cX0_greatestRankFalseIn) (maxL := 4) (ret := (some .int)) (by decide) rfl ?_
  intro p e s m args below meth c s₁ B hml hv
  obtain ⟨rfl, hP, hE⟩ := hv
  have hx := B.exec
  have hb := B.bytes
  have hr := B.returns
  have hts := atoms_spec (ws := wsX0_greatestRankFalseIn) B.pre
  have hown : s.vm.findClass RX0 = some m.cls := findClass_of_methodNamed B.named
  have hlocks := B.notSynchronized
  have hK := hE.1
  have hw0 := hts (.fieldLink RX0 21 "BeliefReviser$Base" "count" "I") (List.mem_of_getElem? (i := 1) rfl)
  have hw1 : ∀ w ∈ u_ws RX0 TX0 4, w ∈ wsX0_greatestRankFalseIn := by decide +kernel
  have hw2 := hts (.static yX3_has) (List.mem_of_getElem? (i := 15) rfl)
  have hw3 := hts (.initialized RX3) (List.mem_of_getElem? (i := 13) rfl)
  have hw4 : va_Nw (.methodLinkNest RX0 48 yX3_has RX3) s := hE.2 (RX0, 48, yX3_has) (List.mem_of_getElem? (i := 4) rfl)
  have hw5 := hts (.methodLink RX0 42 Lib.Math.max.name) (List.mem_of_getElem? (i := 2) rfl)
  have hw6 := hts (.static Lib.Math.max.name) (List.mem_of_getElem? (i := 3) rfl)
  have hw7 := hts (.initialized "java/lang/Math") (List.mem_of_getElem? (i := 4) rfl)
  have hw8 := hts (.code Lib.Math.max.name Lib.Math.max.code 2 (some .int)) (List.mem_of_getElem? (i := 5) rfl)
  have hP : va_P G vwCl [(xb, .inr (0, [.ref as, .ref ar, .ref am, .int (nI bn)])), (as, .inl (cI, 10, .inl bs)), (ar, .inl (cI, 10, .inl br)), (am, .inl (cI, 1024, .inl mt))] s.heap := hP
  have hl := lv_entry ([.ref xb, .int wd]) (n := 4) (Nat.le_of_ble_eq_true rfl)
  rw [lg_entry_eq]
  generalize (lg_sl ([.ref xb, .int wd]) ++ List.replicate (4 - (lg_sl ([.ref xb, .int wd])).length) Slot.unset).toArray = ls at hl ⊢
  have hl : lv_has ls 4 [(0, .ref xb), (1, .int wd)] := hl
  refine lv_iconst (pc := 0) (v := 0) hx hb dX0_greatestRankFalseIn_0 (by decide) ?_
  refine lv_istore_n (pc := 1) (lv' := [(2, .int 0), (0, .ref xb), (1, .int wd)]) hx hb dX0_greatestRankFalseIn_1 rfl hl (by decide) rfl (fun ls hl => ?_)
  refine lv_iconst (pc := 2) (v := 0) hx hb dX0_greatestRankFalseIn_2 (by decide) ?_
  refine lv_istore_n (pc := 3) (lv' := [(3, .int 0), (2, .int 0), (0, .ref xb), (1, .int wd)]) hx hb dX0_greatestRankFalseIn_3 rfl hl (by decide) rfl (fun ls hl => ?_)
  have loop_4 : ∀ (fu9 : Nat) (k : Nat) (a : Int32), bn - k < fu9 → (k ≤ bn) → (a = bv_gr bs br wd k) → ∀ (ls : Array Slot), lv_has ls 4 [(3, .int (nI k)), (2, .int a), (0, .ref xb), (1, .int wd)] → W p l e (headSpec wsX0_greatestRankFalseIn ({ frames := 2, cells := 0, slots := 0, locals := 42 })).room s m ([.ref xb, .int wd] : List Value).toArray below meth c s.heap [] 0 0 (MQ below (vp_Si (fun r9 : Int32 => r9 = (bv_gr bs br wd bn))) ([.ref xb, .int wd] : List Value).toArray s 0 0 (fun _ => False)) (F0 m 4 ls []) := by
    intro fu9
    induction fu9 with
    | zero => intro k a hfu; exact absurd hfu (Nat.not_lt_zero _)
    | succ fu9 ih =>
      intro k a hfu hk hi ls hl
      refine lv_iload_n (pc := 4) hx hb dX0_greatestRankFalseIn_4 rfl (lv_at hl 0 rfl) ?_
      refine lv_aload_n (pc := 5) hx hb dX0_greatestRankFalseIn_5 rfl (lv_at hl 2 rfl) ?_
      refine va_get (pc := 6) (D := G) (ci := 0) (v := .int (nI bn)) (C := RX0) (T := TX0) (N := 4) hx hb hts hw1 hown hK hP 0 rfl rfl 3 (by decide) hw0 (fun _ h9 => h9) rfl dX0_greatestRankFalseIn_6 ?_
      refine lv_icmp_ge (pc := 9) (tgt := 40) hx hb dX0_greatestRankFalseIn_9 (by decide) (fun c9_1 => ?_) (fun c9_1 => ?_)
      · have hkn : bn = k := by
          by_cases h : k < bn
          · exact absurd c9_1 (nI_ge h (by omega))
          · omega
        subst hkn
        refine lv_iload_n (pc := 40) hx hb dX0_greatestRankFalseIn_40 rfl (lv_at hl 1 rfl) ?_
        exact W.iret (pc := 41) (v := a) hx hb hr (fun T8 hT8 hW8 => ⟨a, rfl, hi, hT8⟩) (fun _ h => nomatch h) dX0_greatestRankFalseIn_41
      · have hkn : k < bn := by
          by_cases h : k < bn
          · exact h
          · exact absurd (nI_le (by omega) (by omega)) c9_1
        refine lv_aload_n (pc := 12) hx hb dX0_greatestRankFalseIn_12 rfl (lv_at hl 2 rfl) ?_
        refine lv_iload_n (pc := 13) hx hb dX0_greatestRankFalseIn_13 rfl (lv_at hl 0 rfl) ?_
        have hPc := hP.sub (ws' := [(xb, .inr (0, [.ref as, .ref ar, .ref am, .int (nI bn)])), (as, .inl (cI, 10, .inl bs)), (ar, .inl (cI, 10, .inl br)), (am, .inl (cI, 1024, .inl mt))]) [0, 1, 2, 3] rfl
        refine bv_cSi (pc := 14) (E' := (bs k)) (va_runV (As := [.int (nI k)]) (rest := []) ⟨hx, hb, hml, hown, hts⟩ (m_X0_sentenceAt l G cI xb as ar am bn bs br mt k (by omega)) (cwV 1 hts gX0_greatestRankFalseIn_X0_sentenceAt rfl rfl rfl (by decide +kernel) ⟨Nat.le_of_ble_eq_true rfl, Nat.le_of_ble_eq_true rfl⟩) (bv_pV hE hPc (va_recv hK hP (ci := 0) (q0 := 0) rfl rfl)) rfl rfl hl.1 rfl (lv_room (Nat.le_of_ble_eq_true rfl)) dX0_greatestRankFalseIn_14 ⟨Nat.le_of_ble_eq_true rfl, Nat.le_of_ble_eq_true rfl⟩) rfl ?_
        refine lv_iload_n (pc := 17) hx hb dX0_greatestRankFalseIn_17 rfl (lv_at hl 3 rfl) ?_
        have hPc := hP.sub (ws' := []) [] rfl
        refine bv_cSi (pc := 18) (E' := (bv_b (bv_has (bs k) wd))) (va_runSN (As := [.int (bs k), .int wd]) (rest := []) ⟨hx, hb, hml, hown, hts⟩ (m_X3_has l G cI (bs k) wd ) ⟨va_cnB 2 hts gX0_greatestRankFalseIn_X3_has_n48 rfl rfl rfl hw4 hw3 (by decide +kernel) ⟨Nat.le_of_ble_eq_true rfl, Nat.le_of_ble_eq_true rfl⟩, hw2, trivial⟩ (bv_pS hE hPc) rfl rfl hl.1 rfl (lv_room (Nat.le_of_ble_eq_true rfl)) dX0_greatestRankFalseIn_18 ⟨Nat.le_of_ble_eq_true rfl, Nat.le_of_ble_eq_true rfl⟩) rfl ?_
        refine lv_if_ne (pc := 21) (tgt := 34) hx hb dX0_greatestRankFalseIn_21 (by decide) (fun c21_6 => ?_) (fun c21_6 => ?_)
        · have h2 := bv_b1.mp c21_6
          refine lv_iinc (pc := 34) (v := (nI (k + 1))) (lv' := [(3, .int (nI (k + 1))), (2, .int a), (0, .ref xb), (1, .int wd)]) hx hb dX0_greatestRankFalseIn_34 hl (k := 0) rfl (nI_1 k) (by decide) rfl (fun ls hl => ?_)
          refine lv_goto (pc := 37) (tgt := 4) hx hb dX0_greatestRankFalseIn_37 (by decide) ?_
          exact ih (k + 1) a (by omega) (by omega) (by simp only [bv_gr, if_pos h2, hi]) ls (lv_sub hl [0, 1, 2, 3] rfl)
        · have h2 := bv_b0.mp c21_6
          refine lv_iload_n (pc := 24) hx hb dX0_greatestRankFalseIn_24 rfl (lv_at hl 1 rfl) ?_
          refine lv_aload_n (pc := 25) hx hb dX0_greatestRankFalseIn_25 rfl (lv_at hl 2 rfl) ?_
          refine lv_iload_n (pc := 26) hx hb dX0_greatestRankFalseIn_26 rfl (lv_at hl 0 rfl) ?_
          have hPc := hP.sub (ws' := [(xb, .inr (0, [.ref as, .ref ar, .ref am, .int (nI bn)])), (as, .inl (cI, 10, .inl bs)), (ar, .inl (cI, 10, .inl br)), (am, .inl (cI, 1024, .inl mt))]) [0, 1, 2, 3] rfl
          refine bv_cSi (pc := 27) (E' := (br k)) (va_runV (As := [.int (nI k)]) (rest := [.int a]) ⟨hx, hb, hml, hown, hts⟩ (m_X0_rankAt l G cI xb as ar am bn bs br mt k (by omega)) (cwV 1 hts gX0_greatestRankFalseIn_X0_rankAt rfl rfl rfl (by decide +kernel) ⟨Nat.le_of_ble_eq_true rfl, Nat.le_of_ble_eq_true rfl⟩) (bv_pV hE hPc (va_recv hK hP (ci := 0) (q0 := 0) rfl rfl)) rfl rfl hl.1 rfl (lv_room (Nat.le_of_ble_eq_true rfl)) dX0_greatestRankFalseIn_27 ⟨Nat.le_of_ble_eq_true rfl, Nat.le_of_ble_eq_true rfl⟩) rfl ?_
          refine va_mmax (pc := 30) hx hb (hml.trans hl.1.symm) hown hw5 hw6 hw7 hw8 (Nat.le_of_ble_eq_true rfl) (Nat.le_of_ble_eq_true rfl) (Nat.le_of_ble_eq_true rfl) (Nat.le_of_ble_eq_true rfl) dX0_greatestRankFalseIn_30 ?_
          rw [show (if a < (br k) then (br k) else a) = (bv_max a (br k)) from rfl]
          refine lv_istore_n (pc := 33) (lv' := [(2, .int (bv_max a (br k))), (3, .int (nI k)), (0, .ref xb), (1, .int wd)]) hx hb dX0_greatestRankFalseIn_33 rfl hl (by decide) rfl (fun ls hl => ?_)
          refine lv_iinc (pc := 34) (v := (nI (k + 1))) (lv' := [(3, .int (nI (k + 1))), (2, .int (bv_max a (br k))), (0, .ref xb), (1, .int wd)]) hx hb dX0_greatestRankFalseIn_34 hl (k := 1) rfl (nI_1 k) (by decide) rfl (fun ls hl => ?_)
          refine lv_goto (pc := 37) (tgt := 4) hx hb dX0_greatestRankFalseIn_37 (by decide) ?_
          exact ih (k + 1) (bv_max a (br k)) (by omega) (by omega) (by simp only [bv_gr, h2, hi]; rfl) ls (lv_sub hl [0, 1, 2, 3] rfl)
  exact loop_4 (bn - 0 + 1) 0 0 (Nat.lt_succ_self _) (Nat.zero_le _) rfl ls (lv_sub hl [0, 1, 2, 3] rfl)
