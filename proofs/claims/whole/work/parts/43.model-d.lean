set_option maxHeartbeats 4000000 in
set_option maxRecDepth 100000 in
theorem m_X4_worldsIn (l : Launch) (G : va_G) (cI : ClassId) (y yp yb yr yl bn : Nat) (th h9 : Int32) (bs br : Nat → Int32) (t : Nat) (hn : bn ≤ 10) (ht : t < 2 ^ bn) : Met l yX4_worldsIn wsX4_worldsIn ({ frames := 1, cells := 0, slots := 0, locals := 21 }) (bv_P [.ref y, .int (nI t)] G cI (fun H => va_P G vwCl [(y, .inr (4, [.int th, .int h9, .ref yp, .int (nI bn), .ref yb, .ref yr, .ref yl])), (yb, .inl (cI, 10, .inl bs)), (yr, .inl (cI, 10, .inl br))] H)) (vp_Si (fun r9 : Int32 => r9 = (bv_wi bs t bn))) 0 0 (fun _ => False) := by
  refine Met.ofW (cc := cX4_worldsIn) (maxL := 4) (ret := (some .int)) (by decide) rfl ?_
  intro p e s m args below meth c s₁ B hml hv
  obtain ⟨rfl, hP, hE⟩ := hv
  have hx := B.exec
  have hb := B.bytes
  have hr := B.returns
  have hts := atoms_spec (ws := wsX4_worldsIn) B.pre
  have hown : s.vm.findClass RX4 = some m.cls := findClass_of_methodNamed B.named
  have hlocks := B.notSynchronized
  have hK := hE.1
  have hw0 := hts (.constant RX4 51 65535) (List.mem_of_getElem? (i := 1) rfl)
  have hw1 := hts (.fieldLink RX4 26 "BeliefReviserModel" "size" "I") (List.mem_of_getElem? (i := 2) rfl)
  have hw2 : ∀ w ∈ u_ws RX4 TX4 7, w ∈ wsX4_worldsIn := by decide +kernel
  have hw3 := hts (.static yX4_has) (List.mem_of_getElem? (i := 5) rfl)
  have hw4 := hts (.fieldLink RX4 13 "BeliefReviserModel" "base" "[I") (List.mem_of_getElem? (i := 3) rfl)
  have hP : va_P G vwCl [(y, .inr (4, [.int th, .int h9, .ref yp, .int (nI bn), .ref yb, .ref yr, .ref yl])), (yb, .inl (cI, 10, .inl bs)), (yr, .inl (cI, 10, .inl br))] s.heap := hP
  have hl := lv_entry ([.ref y, .int (nI t)]) (n := 4) (Nat.le_of_ble_eq_true rfl)
  rw [lg_entry_eq]
  generalize (lg_sl ([.ref y, .int (nI t)]) ++ List.replicate (4 - (lg_sl ([.ref y, .int (nI t)])).length) Slot.unset).toArray = ls at hl ⊢
  have hl : lv_has ls 4 [(0, .ref y), (1, .int (nI t))] := hl
  have hp10 := bv_p10 hn
  refine lv_ldc (pc := 0) hx hb hown hw0 dX4_worldsIn_0 ?_
  refine lv_istore_n (pc := 2) (lv' := [(2, .int 65535), (0, .ref y), (1, .int (nI t))]) hx hb dX4_worldsIn_2 rfl hl (by decide) rfl (fun ls hl => ?_)
  refine lv_iconst (pc := 3) (v := 0) hx hb dX4_worldsIn_3 (by decide) ?_
  refine lv_istore_n (pc := 4) (lv' := [(3, .int 0), (2, .int 65535), (0, .ref y), (1, .int (nI t))]) hx hb dX4_worldsIn_4 rfl hl (by decide) rfl (fun ls hl => ?_)
  have loop_5 : ∀ (fu9 : Nat) (k : Nat) (a : Int32), bn - k < fu9 → (k ≤ bn) → (a = bv_wi bs t k) → ∀ (ls : Array Slot), lv_has ls 4 [(3, .int (nI k)), (2, .int a), (0, .ref y), (1, .int (nI t))] → W p l e (headSpec wsX4_worldsIn ({ frames := 1, cells := 0, slots := 0, locals := 21 })).room s m ([.ref y, .int (nI t)] : List Value).toArray below meth c s.heap [] 0 0 (MQ below (vp_Si (fun r9 : Int32 => r9 = (bv_wi bs t bn))) ([.ref y, .int (nI t)] : List Value).toArray s 0 0 (fun _ => False)) (F0 m 5 ls []) := by
    intro fu9
    induction fu9 with
    | zero => intro k a hfu; exact absurd hfu (Nat.not_lt_zero _)
    | succ fu9 ih =>
      intro k a hfu hk hi ls hl
      refine lv_iload_n (pc := 5) hx hb dX4_worldsIn_5 rfl (lv_at hl 0 rfl) ?_
      refine lv_aload_n (pc := 6) hx hb dX4_worldsIn_6 rfl (lv_at hl 2 rfl) ?_
      refine va_get (pc := 7) (D := G) (ci := 4) (v := .int (nI bn)) (C := RX4) (T := TX4) (N := 7) hx hb hts hw2 hown hK hP 0 rfl rfl 3 (by decide) hw1 (fun _ h9 => h9) rfl dX4_worldsIn_7 ?_
      refine lv_icmp_ge (pc := 10) (tgt := 36) hx hb dX4_worldsIn_10 (by decide) (fun c10_1 => ?_) (fun c10_1 => ?_)
      · have hkn : bn = k := by
          by_cases h : k < bn
          · exact absurd c10_1 (nI_ge h (by omega))
          · omega
        subst hkn
        refine lv_iload_n (pc := 36) hx hb dX4_worldsIn_36 rfl (lv_at hl 1 rfl) ?_
        exact W.iret (pc := 37) (v := a) hx hb hr (fun T8 hT8 hW8 => ⟨a, rfl, hi, hT8⟩) (fun _ h => nomatch h) dX4_worldsIn_37
      · have hkn : k < bn := by
          by_cases h : k < bn
          · exact h
          · exact absurd (nI_le (by omega) (by omega)) c10_1
        refine lv_iload_n (pc := 13) hx hb dX4_worldsIn_13 rfl (lv_at hl 3 rfl) ?_
        refine lv_iload_n (pc := 14) hx hb dX4_worldsIn_14 rfl (lv_at hl 0 rfl) ?_
        have hPc := hP.sub (ws' := []) [] rfl
        refine bv_cSi (pc := 15) (E' := (bv_b (t.testBit k))) (va_runS (As := [.int (nI t), .int (nI k)]) (rest := []) ⟨hx, hb, hml, hown, hts⟩ (m_X4_has l G cI (nI t) (nI k) ) (va_cwS 2 hts gX4_worldsIn_X4_has rfl rfl rfl (by decide +kernel) ⟨Nat.le_of_ble_eq_true rfl, Nat.le_of_ble_eq_true rfl⟩) (bv_pS hE hPc) rfl rfl hl.1 rfl (lv_room (Nat.le_of_ble_eq_true rfl)) dX4_worldsIn_15 ⟨Nat.le_of_ble_eq_true rfl, Nat.le_of_ble_eq_true rfl⟩) (by rw [bv_has_nI (by omega) (by omega)]) ?_
        refine lv_if_eq (pc := 18) (tgt := 30) hx hb dX4_worldsIn_18 (by decide) (fun c18_4 => ?_) (fun c18_4 => ?_)
        · have h2 := bv_b0.mp c18_4
          refine lv_iinc (pc := 30) (v := (nI (k + 1))) (lv' := [(3, .int (nI (k + 1))), (2, .int a), (0, .ref y), (1, .int (nI t))]) hx hb dX4_worldsIn_30 hl (k := 0) rfl (nI_1 k) (by decide) rfl (fun ls hl => ?_)
          refine lv_goto (pc := 33) (tgt := 5) hx hb dX4_worldsIn_33 (by decide) ?_
          exact ih (k + 1) a (by omega) (by omega) (by rw [bv_wi, if_neg (by rw [h2]; decide), hi]) ls (lv_sub hl [0, 1, 2, 3] rfl)
        · have h2 := bv_b1.mp c18_4
          refine lv_iload_n (pc := 21) hx hb dX4_worldsIn_21 rfl (lv_at hl 1 rfl) ?_
          refine lv_aload_n (pc := 22) hx hb dX4_worldsIn_22 rfl (lv_at hl 2 rfl) ?_
          refine va_get (pc := 23) (D := G) (ci := 4) (v := .ref yb) (C := RX4) (T := TX4) (N := 7) hx hb hts hw2 hown hK hP 0 rfl rfl 4 (by decide) hw4 (fun _ h9 => h9) rfl dX4_worldsIn_23 ?_
          refine lv_iload_n (pc := 26) hx hb dX4_worldsIn_26 rfl (lv_at hl 0 rfl) ?_
          refine bv_ial (pc := 27) hx hb hK hP 1 0 rfl rfl (by omega) (by omega) dX4_worldsIn_27 ?_
          refine lv_iand (pc := 28) hx hb dX4_worldsIn_28 ?_
          refine lv_istore_n (pc := 29) (lv' := [(2, .int (a &&& (bs k))), (3, .int (nI k)), (0, .ref y), (1, .int (nI t))]) hx hb dX4_worldsIn_29 rfl hl (by decide) rfl (fun ls hl => ?_)
          refine lv_iinc (pc := 30) (v := (nI (k + 1))) (lv' := [(3, .int (nI (k + 1))), (2, .int (a &&& (bs k))), (0, .ref y), (1, .int (nI t))]) hx hb dX4_worldsIn_30 hl (k := 1) rfl (nI_1 k) (by decide) rfl (fun ls hl => ?_)
          refine lv_goto (pc := 33) (tgt := 5) hx hb dX4_worldsIn_33 (by decide) ?_
          exact ih (k + 1) (a &&& (bs k)) (by omega) (by omega) (by rw [bv_wi, if_pos h2, hi]) ls (lv_sub hl [0, 1, 2, 3] rfl)
  exact loop_5 (bn - 0 + 1) 0 65535 (Nat.lt_succ_self _) (Nat.zero_le _) rfl ls (lv_sub hl [0, 1, 2, 3] rfl)
set_option maxHeartbeats 4000000 in
set_option maxRecDepth 100000 in
theorem m_X4_doEntail (l : Launch) (G : va_G) (cI : ClassId) (y yp yb yr yl bn : Nat) (th h9 : Int32) (bs br : Nat → Int32) (t : Nat) (g : Int32) (hn : bn ≤ 10) (ht : t < 2 ^ bn) : Met l yX4_doEntail wsX4_doEntail ({ frames := 2, cells := 0, slots := 0, locals := 44 }) (bv_P [.ref y, .int (nI t), .int g] G cI (fun H => va_P G vwCl [(y, .inr (4, [.int th, .int h9, .ref yp, .int (nI bn), .ref yb, .ref yr, .ref yl])), (yb, .inl (cI, 10, .inl bs)), (yr, .inl (cI, 10, .inl br))] H)) (vp_Si (fun r9 : Int32 => r9 = (bv_b (bv_de bs bn t g)))) 0 0 (fun _ => False) := by
  refine Met.ofW (cc := cX4_doEntail) (maxL := 3) (ret := (some .boolean)) (by decide) rfl ?_
  intro p e s m args below meth c s₁ B hml hv
  obtain ⟨rfl, hP, hE⟩ := hv
  have hx := B.exec
  have hb := B.bytes
  have hr := B.returns
  have hts := atoms_spec (ws := wsX4_doEntail) B.pre
  have hown : s.vm.findClass RX4 = some m.cls := findClass_of_methodNamed B.named
  have hlocks := B.notSynchronized
  have hK := hE.1
  have hP : va_P G vwCl [(y, .inr (4, [.int th, .int h9, .ref yp, .int (nI bn), .ref yb, .ref yr, .ref yl])), (yb, .inl (cI, 10, .inl bs)), (yr, .inl (cI, 10, .inl br))] s.heap := hP
  have hl := lv_entry ([.ref y, .int (nI t), .int g]) (n := 3) (Nat.le_of_ble_eq_true rfl)
  rw [lg_entry_eq]
  generalize (lg_sl ([.ref y, .int (nI t), .int g]) ++ List.replicate (3 - (lg_sl ([.ref y, .int (nI t), .int g])).length) Slot.unset).toArray = ls at hl ⊢
  have hl : lv_has ls 3 [(0, .ref y), (1, .int (nI t)), (2, .int g)] := hl
  refine lv_aload_n (pc := 0) hx hb dX4_doEntail_0 rfl (lv_at hl 0 rfl) ?_
  refine lv_iload_n (pc := 1) hx hb dX4_doEntail_1 rfl (lv_at hl 1 rfl) ?_
  have hPc := hP.sub (ws' := [(y, .inr (4, [.int th, .int h9, .ref yp, .int (nI bn), .ref yb, .ref yr, .ref yl])), (yb, .inl (cI, 10, .inl bs)), (yr, .inl (cI, 10, .inl br))]) [0, 1, 2] rfl
  refine bv_cSi (pc := 2) (E' := (bv_wi bs t bn)) (va_runV (As := [.int (nI t)]) (rest := []) ⟨hx, hb, hml, hown, hts⟩ (m_X4_worldsIn l G cI y yp yb yr yl bn th h9 bs br t hn ht) (cwV 1 hts gX4_doEntail_X4_worldsIn rfl rfl rfl (by decide +kernel) ⟨Nat.le_of_ble_eq_true rfl, Nat.le_of_ble_eq_true rfl⟩) (bv_pV hE hPc (va_recv hK hP (ci := 4) (q0 := 0) rfl rfl)) rfl rfl hl.1 rfl (lv_room (Nat.le_of_ble_eq_true rfl)) dX4_doEntail_2 ⟨Nat.le_of_ble_eq_true rfl, Nat.le_of_ble_eq_true rfl⟩) rfl ?_
  refine lv_iload_n (pc := 5) hx hb dX4_doEntail_5 rfl (lv_at hl 2 rfl) ?_
  refine lv_iconst (pc := 6) (v := (-1)) hx hb dX4_doEntail_6 (by decide) ?_
  refine lv_ixor (pc := 7) hx hb dX4_doEntail_7 ?_
  refine lv_iand (pc := 8) hx hb dX4_doEntail_8 ?_
  refine lv_if_ne (pc := 9) (tgt := 16) hx hb dX4_doEntail_9 (by decide) (fun c9_3 => ?_) (fun c9_3 => ?_)
  · have h1 := c9_3
    refine lv_iconst (pc := 16) (v := 0) hx hb dX4_doEntail_16 (by decide) ?_
    exact W.zret (pc := 17) (v := 0) hx hb hr rfl (fun T8 hT8 hW8 => ⟨0, rfl, (by rw [bv_de, ← bv_de_m, decide_eq_false h1]; rfl), hT8⟩) (fun _ h => nomatch h) dX4_doEntail_17
  · have h1 := c9_3
    refine lv_iconst (pc := 12) (v := 1) hx hb dX4_doEntail_12 (by decide) ?_
    refine lv_goto (pc := 13) (tgt := 17) hx hb dX4_doEntail_13 (by decide) ?_
    exact W.zret (pc := 17) (v := 1) hx hb hr rfl (fun T8 hT8 hW8 => ⟨1, rfl, (by rw [bv_de, ← bv_de_m, decide_eq_true h1]; rfl), hT8⟩) (fun _ h => nomatch h) dX4_doEntail_17
set_option maxHeartbeats 4000000 in
set_option maxRecDepth 100000 in
theorem m_X4_isKernel (l : Launch) (G : va_G) (cI : ClassId) (y yp yb yr yl bn : Nat) (th h9 : Int32) (bs br : Nat → Int32) (t : Nat) (g : Int32) (hn : bn ≤ 10) (ht : t < 2 ^ bn) : Met l yX4_isKernel wsX4_isKernel ({ frames := 3, cells := 0, slots := 0, locals := 66 }) (bv_P [.ref y, .int (nI t), .int g] G cI (fun H => va_P G vwCl [(y, .inr (4, [.int th, .int h9, .ref yp, .int (nI bn), .ref yb, .ref yr, .ref yl])), (yb, .inl (cI, 10, .inl bs)), (yr, .inl (cI, 10, .inl br))] H)) (vp_Si (fun r9 : Int32 => r9 = (bv_b (bv_ik bs bn g t)))) 0 0 (fun _ => False) := by
  refine Met.ofW (cc := cX4_isKernel) (maxL := 5) (ret := (some .boolean)) (by decide) rfl ?_
  intro p e s m args below meth c s₁ B hml hv
  obtain ⟨rfl, hP, hE⟩ := hv
  have hx := B.exec
  have hb := B.bytes
  have hr := B.returns
  have hts := atoms_spec (ws := wsX4_isKernel) B.pre
  have hown : s.vm.findClass RX4 = some m.cls := findClass_of_methodNamed B.named
  have hlocks := B.notSynchronized
  have hK := hE.1
  have hw0 := hts (.fieldLink RX4 26 "BeliefReviserModel" "size" "I") (List.mem_of_getElem? (i := 1) rfl)
  have hw1 : ∀ w ∈ u_ws RX4 TX4 7, w ∈ wsX4_isKernel := by decide +kernel
  have hw2 := hts (.static yX4_has) (List.mem_of_getElem? (i := 14) rfl)
  have hP : va_P G vwCl [(y, .inr (4, [.int th, .int h9, .ref yp, .int (nI bn), .ref yb, .ref yr, .ref yl])), (yb, .inl (cI, 10, .inl bs)), (yr, .inl (cI, 10, .inl br))] s.heap := hP
  have hl := lv_entry ([.ref y, .int (nI t), .int g]) (n := 5) (Nat.le_of_ble_eq_true rfl)
  rw [lg_entry_eq]
  generalize (lg_sl ([.ref y, .int (nI t), .int g]) ++ List.replicate (5 - (lg_sl ([.ref y, .int (nI t), .int g])).length) Slot.unset).toArray = ls at hl ⊢
  have hl : lv_has ls 5 [(0, .ref y), (1, .int (nI t)), (2, .int g)] := hl
  have hp10 := bv_p10 hn
  refine lv_aload_n (pc := 0) hx hb dX4_isKernel_0 rfl (lv_at hl 0 rfl) ?_
  refine lv_iload_n (pc := 1) hx hb dX4_isKernel_1 rfl (lv_at hl 1 rfl) ?_
  refine lv_iload_n (pc := 2) hx hb dX4_isKernel_2 rfl (lv_at hl 2 rfl) ?_
  have hPc := hP.sub (ws' := [(y, .inr (4, [.int th, .int h9, .ref yp, .int (nI bn), .ref yb, .ref yr, .ref yl])), (yb, .inl (cI, 10, .inl bs)), (yr, .inl (cI, 10, .inl br))]) [0, 1, 2] rfl
  refine bv_cSi (pc := 3) (E' := (bv_b (bv_de bs bn t g))) (va_runV (As := [.int (nI t), .int g]) (rest := []) ⟨hx, hb, hml, hown, hts⟩ (m_X4_doEntail l G cI y yp yb yr yl bn th h9 bs br t g hn ht) (cwV 2 hts gX4_isKernel_X4_doEntail rfl rfl rfl (by decide +kernel) ⟨Nat.le_of_ble_eq_true rfl, Nat.le_of_ble_eq_true rfl⟩) (bv_pV hE hPc (va_recv hK hP (ci := 4) (q0 := 0) rfl rfl)) rfl rfl hl.1 rfl (lv_room (Nat.le_of_ble_eq_true rfl)) dX4_isKernel_3 ⟨Nat.le_of_ble_eq_true rfl, Nat.le_of_ble_eq_true rfl⟩) rfl ?_
  refine lv_istore_n (pc := 6) (lv' := [(3, .int (bv_b (bv_de bs bn t g))), (0, .ref y), (1, .int (nI t)), (2, .int g)]) hx hb dX4_isKernel_6 rfl hl (by decide) rfl (fun ls hl => ?_)
  refine lv_iconst (pc := 7) (v := 0) hx hb dX4_isKernel_7 (by decide) ?_
  refine lv_istore (pc := 8) (lv' := [(4, .int 0), (3, .int (bv_b (bv_de bs bn t g))), (0, .ref y), (1, .int (nI t)), (2, .int g)]) hx hb dX4_isKernel_8 hl (by decide) rfl (fun ls hl => ?_)
  have loop_10 : ∀ (fu9 : Nat) (k : Nat) (a : Int32), bn - k < fu9 → (k ≤ bn) → (a = bv_b (bv_de bs bn t g && bv_all (fun k => !(t.testBit k && bv_de bs bn (t ^^^ 2 ^ k) g)) k)) → ∀ (ls : Array Slot), lv_has ls 5 [(4, .int (nI k)), (3, .int a), (0, .ref y), (1, .int (nI t)), (2, .int g)] → W p l e (headSpec wsX4_isKernel ({ frames := 3, cells := 0, slots := 0, locals := 66 })).room s m ([.ref y, .int (nI t), .int g] : List Value).toArray below meth c s.heap [] 0 0 (MQ below (vp_Si (fun r9 : Int32 => r9 = (bv_b (bv_ik bs bn g t)))) ([.ref y, .int (nI t), .int g] : List Value).toArray s 0 0 (fun _ => False)) (F0 m 10 ls []) := by
    intro fu9
    induction fu9 with
    | zero => intro k a hfu; exact absurd hfu (Nat.not_lt_zero _)
    | succ fu9 ih =>
      intro k a hfu hk hi ls hl
      refine lv_iload (pc := 10) hx hb dX4_isKernel_10 (lv_at hl 0 rfl) ?_
      refine lv_aload_n (pc := 12) hx hb dX4_isKernel_12 rfl (lv_at hl 2 rfl) ?_
      refine va_get (pc := 13) (D := G) (ci := 4) (v := .int (nI bn)) (C := RX4) (T := TX4) (N := 7) hx hb hts hw1 hown hK hP 0 rfl rfl 3 (by decide) hw0 (fun _ h9 => h9) rfl dX4_isKernel_13 ?_
      refine lv_icmp_ge (pc := 16) (tgt := 60) hx hb dX4_isKernel_16 (by decide) (fun c16_3 => ?_) (fun c16_3 => ?_)
      · have hkn : bn = k := by
          by_cases h : k < bn
          · exact absurd c16_3 (nI_ge h (by omega))
          · omega
        subst hkn
        refine lv_iload_n (pc := 60) hx hb dX4_isKernel_60 rfl (lv_at hl 1 rfl) ?_
        rw [hi]
        exact W.zret (pc := 61) (v := (bv_b (bv_de bs bn t g && bv_all (fun k => !(t.testBit k && bv_de bs bn (t ^^^ 2 ^ k) g)) bn))) hx hb hr (bv_nz _) (fun T8 hT8 hW8 => ⟨(bv_b (bv_de bs bn t g && bv_all (fun k => !(t.testBit k && bv_de bs bn (t ^^^ 2 ^ k) g)) bn)), rfl, (by rw [bv_ik]), hT8⟩) (fun _ h => nomatch h) dX4_isKernel_61
      · have hkn : k < bn := by
          by_cases h : k < bn
          · exact h
          · exact absurd (nI_le (by omega) (by omega)) c16_3
        refine lv_iload_n (pc := 19) hx hb dX4_isKernel_19 rfl (lv_at hl 1 rfl) ?_
        refine lv_if_eq (pc := 20) (tgt := 52) hx hb dX4_isKernel_20 (by decide) (fun c20_4 => ?_) (fun c20_4 => ?_)
        · have h2 : (bv_de bs bn t g && bv_all (fun k => !(t.testBit k && bv_de bs bn (t ^^^ 2 ^ k) g)) k) = false := by rw [hi] at c20_4; exact bv_b0.mp c20_4
          refine lv_iconst (pc := 52) (v := 0) hx hb dX4_isKernel_52 (by decide) ?_
          refine lv_istore_n (pc := 53) (lv' := [(3, .int 0), (4, .int (nI k)), (0, .ref y), (1, .int (nI t)), (2, .int g)]) hx hb dX4_isKernel_53 rfl hl (by decide) rfl (fun ls hl => ?_)
          refine lv_iinc (pc := 54) (v := (nI (k + 1))) (lv' := [(4, .int (nI (k + 1))), (3, .int 0), (0, .ref y), (1, .int (nI t)), (2, .int g)]) hx hb dX4_isKernel_54 hl (k := 1) rfl (nI_1 k) (by decide) rfl (fun ls hl => ?_)
          refine lv_goto (pc := 57) (tgt := 10) hx hb dX4_isKernel_57 (by decide) ?_
          exact ih (k + 1) 0 (by omega) (by omega) (by rw [bv_all, ← Bool.and_assoc, h2]; rfl) ls (lv_sub hl [0, 1, 2, 3, 4] rfl)
        · have h2 : (bv_de bs bn t g && bv_all (fun k => !(t.testBit k && bv_de bs bn (t ^^^ 2 ^ k) g)) k) = true := by rw [hi] at c20_4; exact bv_b1.mp c20_4
          refine lv_iload_n (pc := 23) hx hb dX4_isKernel_23 rfl (lv_at hl 3 rfl) ?_
          refine lv_iload (pc := 24) hx hb dX4_isKernel_24 (lv_at hl 0 rfl) ?_
          have hPc := hP.sub (ws' := []) [] rfl
          refine bv_cSi (pc := 26) (E' := (bv_b (t.testBit k))) (va_runS (As := [.int (nI t), .int (nI k)]) (rest := []) ⟨hx, hb, hml, hown, hts⟩ (m_X4_has l G cI (nI t) (nI k) ) (va_cwS 2 hts gX4_isKernel_X4_has rfl rfl rfl (by decide +kernel) ⟨Nat.le_of_ble_eq_true rfl, Nat.le_of_ble_eq_true rfl⟩) (bv_pS hE hPc) rfl rfl hl.1 rfl (lv_room (Nat.le_of_ble_eq_true rfl)) dX4_isKernel_26 ⟨Nat.le_of_ble_eq_true rfl, Nat.le_of_ble_eq_true rfl⟩) (by rw [bv_has_nI (by omega) (by omega)]) ?_
          refine lv_if_eq (pc := 29) (tgt := 48) hx hb dX4_isKernel_29 (by decide) (fun c29_7 => ?_) (fun c29_7 => ?_)
          · have h3 := bv_b0.mp c29_7
            refine lv_iconst (pc := 48) (v := 1) hx hb dX4_isKernel_48 (by decide) ?_
            refine lv_goto (pc := 49) (tgt := 53) hx hb dX4_isKernel_49 (by decide) ?_
            refine lv_istore_n (pc := 53) (lv' := [(3, .int 1), (4, .int (nI k)), (0, .ref y), (1, .int (nI t)), (2, .int g)]) hx hb dX4_isKernel_53 rfl hl (by decide) rfl (fun ls hl => ?_)
            refine lv_iinc (pc := 54) (v := (nI (k + 1))) (lv' := [(4, .int (nI (k + 1))), (3, .int 1), (0, .ref y), (1, .int (nI t)), (2, .int g)]) hx hb dX4_isKernel_54 hl (k := 1) rfl (nI_1 k) (by decide) rfl (fun ls hl => ?_)
            refine lv_goto (pc := 57) (tgt := 10) hx hb dX4_isKernel_57 (by decide) ?_
            exact ih (k + 1) 1 (by omega) (by omega) (by rw [bv_all, ← Bool.and_assoc, h2]; simp only [h3]; rfl) ls (lv_sub hl [0, 1, 2, 3, 4] rfl)
          · have h3 := bv_b1.mp c29_7
            refine lv_aload_n (pc := 32) hx hb dX4_isKernel_32 rfl (lv_at hl 2 rfl) ?_
            refine lv_iload_n (pc := 33) hx hb dX4_isKernel_33 rfl (lv_at hl 3 rfl) ?_
            refine lv_iconst (pc := 34) (v := 1) hx hb dX4_isKernel_34 (by decide) ?_
            refine lv_iload (pc := 35) hx hb dX4_isKernel_35 (lv_at hl 0 rfl) ?_
            refine lv_ishl (pc := 37) hx hb dX4_isKernel_37 ?_
            refine lv_iconst (pc := 38) (v := (-1)) hx hb dX4_isKernel_38 (by decide) ?_
            refine lv_ixor (pc := 39) hx hb dX4_isKernel_39 ?_
            refine lv_iand (pc := 40) hx hb dX4_isKernel_40 ?_
            refine lv_iload_n (pc := 41) hx hb dX4_isKernel_41 rfl (lv_at hl 4 rfl) ?_
            rw [show (nI t &&& (((1 : Int32) <<< (nI k &&& 31)) ^^^ (-1))) = nI (t ^^^ 2 ^ k) from bv_clr (by omega) h3]
            have hPc := hP.sub (ws' := [(y, .inr (4, [.int th, .int h9, .ref yp, .int (nI bn), .ref yb, .ref yr, .ref yl])), (yb, .inl (cI, 10, .inl bs)), (yr, .inl (cI, 10, .inl br))]) [0, 1, 2] rfl
            refine bv_cSi (pc := 42) (E' := (bv_b (bv_de bs bn (t ^^^ 2 ^ k) g))) (va_runV (As := [.int (nI (t ^^^ 2 ^ k)), .int g]) (rest := []) ⟨hx, hb, hml, hown, hts⟩ (m_X4_doEntail l G cI y yp yb yr yl bn th h9 bs br (t ^^^ 2 ^ k) g hn (bv_xlt ht (by omega))) (cwV 2 hts gX4_isKernel_X4_doEntail rfl rfl rfl (by decide +kernel) ⟨Nat.le_of_ble_eq_true rfl, Nat.le_of_ble_eq_true rfl⟩) (bv_pV hE hPc (va_recv hK hP (ci := 4) (q0 := 0) rfl rfl)) rfl rfl hl.1 rfl (lv_room (Nat.le_of_ble_eq_true rfl)) dX4_isKernel_42 ⟨Nat.le_of_ble_eq_true rfl, Nat.le_of_ble_eq_true rfl⟩) rfl ?_
            refine lv_if_ne (pc := 45) (tgt := 52) hx hb dX4_isKernel_45 (by decide) (fun c45_10 => ?_) (fun c45_10 => ?_)
            · have h4 := bv_b1.mp c45_10
              refine lv_iconst (pc := 52) (v := 0) hx hb dX4_isKernel_52 (by decide) ?_
              refine lv_istore_n (pc := 53) (lv' := [(3, .int 0), (4, .int (nI k)), (0, .ref y), (1, .int (nI t)), (2, .int g)]) hx hb dX4_isKernel_53 rfl hl (by decide) rfl (fun ls hl => ?_)
              refine lv_iinc (pc := 54) (v := (nI (k + 1))) (lv' := [(4, .int (nI (k + 1))), (3, .int 0), (0, .ref y), (1, .int (nI t)), (2, .int g)]) hx hb dX4_isKernel_54 hl (k := 1) rfl (nI_1 k) (by decide) rfl (fun ls hl => ?_)
              refine lv_goto (pc := 57) (tgt := 10) hx hb dX4_isKernel_57 (by decide) ?_
              exact ih (k + 1) 0 (by omega) (by omega) (by rw [bv_all]; simp only [h3, h4]; rw [show (!(true && true)) = false from rfl, Bool.and_false, Bool.and_false]; rfl) ls (lv_sub hl [0, 1, 2, 3, 4] rfl)
            · have h4 := bv_b0.mp c45_10
              refine lv_iconst (pc := 48) (v := 1) hx hb dX4_isKernel_48 (by decide) ?_
              refine lv_goto (pc := 49) (tgt := 53) hx hb dX4_isKernel_49 (by decide) ?_
              refine lv_istore_n (pc := 53) (lv' := [(3, .int 1), (4, .int (nI k)), (0, .ref y), (1, .int (nI t)), (2, .int g)]) hx hb dX4_isKernel_53 rfl hl (by decide) rfl (fun ls hl => ?_)
              refine lv_iinc (pc := 54) (v := (nI (k + 1))) (lv' := [(4, .int (nI (k + 1))), (3, .int 1), (0, .ref y), (1, .int (nI t)), (2, .int g)]) hx hb dX4_isKernel_54 hl (k := 1) rfl (nI_1 k) (by decide) rfl (fun ls hl => ?_)
              refine lv_goto (pc := 57) (tgt := 10) hx hb dX4_isKernel_57 (by decide) ?_
              exact ih (k + 1) 1 (by omega) (by omega) (by rw [bv_all, ← Bool.and_assoc, h2]; simp only [h3, h4]; rfl) ls (lv_sub hl [0, 1, 2, 3, 4] rfl)
  exact loop_10 (bn - 0 + 1) 0 (bv_b (bv_de bs bn t g)) (Nat.lt_succ_self _) (Nat.zero_le _) (by rw [bv_all, Bool.and_true]) ls (lv_sub hl [0, 1, 2, 3, 4] rfl)
set_option maxHeartbeats 4000000 in
set_option maxRecDepth 100000 in
theorem m_X4_isRemainder (l : Launch) (G : va_G) (cI : ClassId) (y yp yb yr yl bn : Nat) (th h9 : Int32) (bs br : Nat → Int32) (t : Nat) (g : Int32) (hn : bn ≤ 10) (ht : t < 2 ^ bn) : Met l yX4_isRemainder wsX4_isRemainder ({ frames := 3, cells := 0, slots := 0, locals := 66 }) (bv_P [.ref y, .int (nI t), .int g] G cI (fun H => va_P G vwCl [(y, .inr (4, [.int th, .int h9, .ref yp, .int (nI bn), .ref yb, .ref yr, .ref yl])), (yb, .inl (cI, 10, .inl bs)), (yr, .inl (cI, 10, .inl br))] H)) (vp_Si (fun r9 : Int32 => r9 = (bv_b (bv_ir bs bn g t)))) 0 0 (fun _ => False) := by
  refine Met.ofW (cc := cX4_isRemainder) (maxL := 5) (ret := (some .boolean)) (by decide) rfl ?_
  intro p e s m args below meth c s₁ B hml hv
  obtain ⟨rfl, hP, hE⟩ := hv
  have hx := B.exec
  have hb := B.bytes
  have hr := B.returns
  have hts := atoms_spec (ws := wsX4_isRemainder) B.pre
  have hown : s.vm.findClass RX4 = some m.cls := findClass_of_methodNamed B.named
  have hlocks := B.notSynchronized
  have hK := hE.1
  have hw0 := hts (.fieldLink RX4 26 "BeliefReviserModel" "size" "I") (List.mem_of_getElem? (i := 1) rfl)
  have hw1 : ∀ w ∈ u_ws RX4 TX4 7, w ∈ wsX4_isRemainder := by decide +kernel
  have hw2 := hts (.static yX4_has) (List.mem_of_getElem? (i := 14) rfl)
  have hP : va_P G vwCl [(y, .inr (4, [.int th, .int h9, .ref yp, .int (nI bn), .ref yb, .ref yr, .ref yl])), (yb, .inl (cI, 10, .inl bs)), (yr, .inl (cI, 10, .inl br))] s.heap := hP
  have hl := lv_entry ([.ref y, .int (nI t), .int g]) (n := 5) (Nat.le_of_ble_eq_true rfl)
  rw [lg_entry_eq]
  generalize (lg_sl ([.ref y, .int (nI t), .int g]) ++ List.replicate (5 - (lg_sl ([.ref y, .int (nI t), .int g])).length) Slot.unset).toArray = ls at hl ⊢
  have hl : lv_has ls 5 [(0, .ref y), (1, .int (nI t)), (2, .int g)] := hl
  have hp10 := bv_p10 hn
  refine lv_aload_n (pc := 0) hx hb dX4_isRemainder_0 rfl (lv_at hl 0 rfl) ?_
  refine lv_iload_n (pc := 1) hx hb dX4_isRemainder_1 rfl (lv_at hl 1 rfl) ?_
  refine lv_iload_n (pc := 2) hx hb dX4_isRemainder_2 rfl (lv_at hl 2 rfl) ?_
  have hPc := hP.sub (ws' := [(y, .inr (4, [.int th, .int h9, .ref yp, .int (nI bn), .ref yb, .ref yr, .ref yl])), (yb, .inl (cI, 10, .inl bs)), (yr, .inl (cI, 10, .inl br))]) [0, 1, 2] rfl
  refine bv_cSi (pc := 3) (E' := (bv_b (bv_de bs bn t g))) (va_runV (As := [.int (nI t), .int g]) (rest := []) ⟨hx, hb, hml, hown, hts⟩ (m_X4_doEntail l G cI y yp yb yr yl bn th h9 bs br t g hn ht) (cwV 2 hts gX4_isRemainder_X4_doEntail rfl rfl rfl (by decide +kernel) ⟨Nat.le_of_ble_eq_true rfl, Nat.le_of_ble_eq_true rfl⟩) (bv_pV hE hPc (va_recv hK hP (ci := 4) (q0 := 0) rfl rfl)) rfl rfl hl.1 rfl (lv_room (Nat.le_of_ble_eq_true rfl)) dX4_isRemainder_3 ⟨Nat.le_of_ble_eq_true rfl, Nat.le_of_ble_eq_true rfl⟩) rfl ?_
  refine lv_if_ne (pc := 6) (tgt := 13) hx hb dX4_isRemainder_6 (by decide) (fun c6_3 => ?_) (fun c6_3 => ?_)
  · have h0 := bv_b1.mp c6_3
    refine lv_iconst (pc := 13) (v := 0) hx hb dX4_isRemainder_13 (by decide) ?_
    refine lv_istore_n (pc := 14) (lv' := [(3, .int 0), (0, .ref y), (1, .int (nI t)), (2, .int g)]) hx hb dX4_isRemainder_14 rfl hl (by decide) rfl (fun ls hl => ?_)
    refine lv_iconst (pc := 15) (v := 0) hx hb dX4_isRemainder_15 (by decide) ?_
    refine lv_istore (pc := 16) (lv' := [(4, .int 0), (3, .int 0), (0, .ref y), (1, .int (nI t)), (2, .int g)]) hx hb dX4_isRemainder_16 hl (by decide) rfl (fun ls hl => ?_)
    have loop_18 : ∀ (fu9 : Nat) (k : Nat) (a : Int32), bn - k < fu9 → (k ≤ bn) → (a = bv_b (!bv_de bs bn t g && bv_all (fun k => t.testBit k || bv_de bs bn (t ||| 2 ^ k) g) k)) → ∀ (ls : Array Slot), lv_has ls 5 [(4, .int (nI k)), (3, .int a), (0, .ref y), (1, .int (nI t)), (2, .int g)] → W p l e (headSpec wsX4_isRemainder ({ frames := 3, cells := 0, slots := 0, locals := 66 })).room s m ([.ref y, .int (nI t), .int g] : List Value).toArray below meth c s.heap [] 0 0 (MQ below (vp_Si (fun r9 : Int32 => r9 = (bv_b (bv_ir bs bn g t)))) ([.ref y, .int (nI t), .int g] : List Value).toArray s 0 0 (fun _ => False)) (F0 m 18 ls []) := by
      intro fu9
      induction fu9 with
      | zero => intro k a hfu; exact absurd hfu (Nat.not_lt_zero _)
      | succ fu9 ih =>
        intro k a hfu hk hi ls hl
        refine lv_iload (pc := 18) hx hb dX4_isRemainder_18 (lv_at hl 0 rfl) ?_
        refine lv_aload_n (pc := 20) hx hb dX4_isRemainder_20 rfl (lv_at hl 2 rfl) ?_
        refine va_get (pc := 21) (D := G) (ci := 4) (v := .int (nI bn)) (C := RX4) (T := TX4) (N := 7) hx hb hts hw1 hown hK hP 0 rfl rfl 3 (by decide) hw0 (fun _ h9 => h9) rfl dX4_isRemainder_21 ?_
        refine lv_icmp_ge (pc := 24) (tgt := 66) hx hb dX4_isRemainder_24 (by decide) (fun c24_4 => ?_) (fun c24_4 => ?_)
        · have hkn : bn = k := by
            by_cases h : k < bn
            · exact absurd c24_4 (nI_ge h (by omega))
            · omega
          subst hkn
          refine lv_iload_n (pc := 66) hx hb dX4_isRemainder_66 rfl (lv_at hl 1 rfl) ?_
          rw [hi]
          exact W.zret (pc := 67) (v := (bv_b (!bv_de bs bn t g && bv_all (fun k => t.testBit k || bv_de bs bn (t ||| 2 ^ k) g) bn))) hx hb hr (bv_nz _) (fun T8 hT8 hW8 => ⟨(bv_b (!bv_de bs bn t g && bv_all (fun k => t.testBit k || bv_de bs bn (t ||| 2 ^ k) g) bn)), rfl, (by rw [bv_ir]), hT8⟩) (fun _ h => nomatch h) dX4_isRemainder_67
        · have hkn : k < bn := by
            by_cases h : k < bn
            · exact h
            · exact absurd (nI_le (by omega) (by omega)) c24_4
          refine lv_iload_n (pc := 27) hx hb dX4_isRemainder_27 rfl (lv_at hl 1 rfl) ?_
          refine lv_if_eq (pc := 28) (tgt := 58) hx hb dX4_isRemainder_28 (by decide) (fun c28_5 => ?_) (fun c28_5 => ?_)
          · have h2 : (!bv_de bs bn t g && bv_all (fun k => t.testBit k || bv_de bs bn (t ||| 2 ^ k) g) k) = false := by rw [hi] at c28_5; exact bv_b0.mp c28_5
            refine lv_iconst (pc := 58) (v := 0) hx hb dX4_isRemainder_58 (by decide) ?_
            refine lv_istore_n (pc := 59) (lv' := [(3, .int 0), (4, .int (nI k)), (0, .ref y), (1, .int (nI t)), (2, .int g)]) hx hb dX4_isRemainder_59 rfl hl (by decide) rfl (fun ls hl => ?_)
            refine lv_iinc (pc := 60) (v := (nI (k + 1))) (lv' := [(4, .int (nI (k + 1))), (3, .int 0), (0, .ref y), (1, .int (nI t)), (2, .int g)]) hx hb dX4_isRemainder_60 hl (k := 1) rfl (nI_1 k) (by decide) rfl (fun ls hl => ?_)
            refine lv_goto (pc := 63) (tgt := 18) hx hb dX4_isRemainder_63 (by decide) ?_
            exact ih (k + 1) 0 (by omega) (by omega) (by rw [bv_all, ← Bool.and_assoc, h2]; rfl) ls (lv_sub hl [0, 1, 2, 3, 4] rfl)
          · have h2 : (!bv_de bs bn t g && bv_all (fun k => t.testBit k || bv_de bs bn (t ||| 2 ^ k) g) k) = true := by rw [hi] at c28_5; exact bv_b1.mp c28_5
            refine lv_iload_n (pc := 31) hx hb dX4_isRemainder_31 rfl (lv_at hl 3 rfl) ?_
            refine lv_iload (pc := 32) hx hb dX4_isRemainder_32 (lv_at hl 0 rfl) ?_
            have hPc := hP.sub (ws' := []) [] rfl
            refine bv_cSi (pc := 34) (E' := (bv_b (t.testBit k))) (va_runS (As := [.int (nI t), .int (nI k)]) (rest := []) ⟨hx, hb, hml, hown, hts⟩ (m_X4_has l G cI (nI t) (nI k) ) (va_cwS 2 hts gX4_isRemainder_X4_has rfl rfl rfl (by decide +kernel) ⟨Nat.le_of_ble_eq_true rfl, Nat.le_of_ble_eq_true rfl⟩) (bv_pS hE hPc) rfl rfl hl.1 rfl (lv_room (Nat.le_of_ble_eq_true rfl)) dX4_isRemainder_34 ⟨Nat.le_of_ble_eq_true rfl, Nat.le_of_ble_eq_true rfl⟩) (by rw [bv_has_nI (by omega) (by omega)]) ?_
            refine lv_if_ne (pc := 37) (tgt := 54) hx hb dX4_isRemainder_37 (by decide) (fun c37_8 => ?_) (fun c37_8 => ?_)
            · have h3 := bv_b1.mp c37_8
              refine lv_iconst (pc := 54) (v := 1) hx hb dX4_isRemainder_54 (by decide) ?_
              refine lv_goto (pc := 55) (tgt := 59) hx hb dX4_isRemainder_55 (by decide) ?_
              refine lv_istore_n (pc := 59) (lv' := [(3, .int 1), (4, .int (nI k)), (0, .ref y), (1, .int (nI t)), (2, .int g)]) hx hb dX4_isRemainder_59 rfl hl (by decide) rfl (fun ls hl => ?_)
              refine lv_iinc (pc := 60) (v := (nI (k + 1))) (lv' := [(4, .int (nI (k + 1))), (3, .int 1), (0, .ref y), (1, .int (nI t)), (2, .int g)]) hx hb dX4_isRemainder_60 hl (k := 1) rfl (nI_1 k) (by decide) rfl (fun ls hl => ?_)
              refine lv_goto (pc := 63) (tgt := 18) hx hb dX4_isRemainder_63 (by decide) ?_
              exact ih (k + 1) 1 (by omega) (by omega) (by rw [bv_all, ← Bool.and_assoc, h2]; simp only [h3]; rfl) ls (lv_sub hl [0, 1, 2, 3, 4] rfl)
            · have h3 := bv_b0.mp c37_8
              refine lv_aload_n (pc := 40) hx hb dX4_isRemainder_40 rfl (lv_at hl 2 rfl) ?_
              refine lv_iload_n (pc := 41) hx hb dX4_isRemainder_41 rfl (lv_at hl 3 rfl) ?_
              refine lv_iconst (pc := 42) (v := 1) hx hb dX4_isRemainder_42 (by decide) ?_
              refine lv_iload (pc := 43) hx hb dX4_isRemainder_43 (lv_at hl 0 rfl) ?_
              refine lv_ishl (pc := 45) hx hb dX4_isRemainder_45 ?_
              refine lv_ior (pc := 46) hx hb dX4_isRemainder_46 ?_
              refine lv_iload_n (pc := 47) hx hb dX4_isRemainder_47 rfl (lv_at hl 4 rfl) ?_
              rw [show (nI t ||| ((1 : Int32) <<< (nI k &&& 31))) = nI (t ||| 2 ^ k) from bv_obit (by omega)]
              have hPc := hP.sub (ws' := [(y, .inr (4, [.int th, .int h9, .ref yp, .int (nI bn), .ref yb, .ref yr, .ref yl])), (yb, .inl (cI, 10, .inl bs)), (yr, .inl (cI, 10, .inl br))]) [0, 1, 2] rfl
              refine bv_cSi (pc := 48) (E' := (bv_b (bv_de bs bn (t ||| 2 ^ k) g))) (va_runV (As := [.int (nI (t ||| 2 ^ k)), .int g]) (rest := []) ⟨hx, hb, hml, hown, hts⟩ (m_X4_doEntail l G cI y yp yb yr yl bn th h9 bs br (t ||| 2 ^ k) g hn (bv_olt ht (by omega))) (cwV 2 hts gX4_isRemainder_X4_doEntail rfl rfl rfl (by decide +kernel) ⟨Nat.le_of_ble_eq_true rfl, Nat.le_of_ble_eq_true rfl⟩) (bv_pV hE hPc (va_recv hK hP (ci := 4) (q0 := 0) rfl rfl)) rfl rfl hl.1 rfl (lv_room (Nat.le_of_ble_eq_true rfl)) dX4_isRemainder_48 ⟨Nat.le_of_ble_eq_true rfl, Nat.le_of_ble_eq_true rfl⟩) rfl ?_
              refine lv_if_eq (pc := 51) (tgt := 58) hx hb dX4_isRemainder_51 (by decide) (fun c51_11 => ?_) (fun c51_11 => ?_)
              · have h4 := bv_b0.mp c51_11
                refine lv_iconst (pc := 58) (v := 0) hx hb dX4_isRemainder_58 (by decide) ?_
                refine lv_istore_n (pc := 59) (lv' := [(3, .int 0), (4, .int (nI k)), (0, .ref y), (1, .int (nI t)), (2, .int g)]) hx hb dX4_isRemainder_59 rfl hl (by decide) rfl (fun ls hl => ?_)
                refine lv_iinc (pc := 60) (v := (nI (k + 1))) (lv' := [(4, .int (nI (k + 1))), (3, .int 0), (0, .ref y), (1, .int (nI t)), (2, .int g)]) hx hb dX4_isRemainder_60 hl (k := 1) rfl (nI_1 k) (by decide) rfl (fun ls hl => ?_)
                refine lv_goto (pc := 63) (tgt := 18) hx hb dX4_isRemainder_63 (by decide) ?_
                exact ih (k + 1) 0 (by omega) (by omega) (by rw [bv_all]; simp only [h3, h4]; rw [show (false || false) = false from rfl, Bool.and_false, Bool.and_false]; rfl) ls (lv_sub hl [0, 1, 2, 3, 4] rfl)
              · have h4 := bv_b1.mp c51_11
                refine lv_iconst (pc := 54) (v := 1) hx hb dX4_isRemainder_54 (by decide) ?_
                refine lv_goto (pc := 55) (tgt := 59) hx hb dX4_isRemainder_55 (by decide) ?_
                refine lv_istore_n (pc := 59) (lv' := [(3, .int 1), (4, .int (nI k)), (0, .ref y), (1, .int (nI t)), (2, .int g)]) hx hb dX4_isRemainder_59 rfl hl (by decide) rfl (fun ls hl => ?_)
                refine lv_iinc (pc := 60) (v := (nI (k + 1))) (lv' := [(4, .int (nI (k + 1))), (3, .int 1), (0, .ref y), (1, .int (nI t)), (2, .int g)]) hx hb dX4_isRemainder_60 hl (k := 1) rfl (nI_1 k) (by decide) rfl (fun ls hl => ?_)
                refine lv_goto (pc := 63) (tgt := 18) hx hb dX4_isRemainder_63 (by decide) ?_
                exact ih (k + 1) 1 (by omega) (by omega) (by rw [bv_all, ← Bool.and_assoc, h2]; simp only [h3, h4]; rfl) ls (lv_sub hl [0, 1, 2, 3, 4] rfl)
    exact loop_18 (bn - 0 + 1) 0 0 (Nat.lt_succ_self _) (Nat.zero_le _) (by rw [bv_all, Bool.and_true]; first | (rw [h0]; rfl)) ls (lv_sub hl [0, 1, 2, 3, 4] rfl)
  · have h0 := bv_b0.mp c6_3
    refine lv_iconst (pc := 9) (v := 1) hx hb dX4_isRemainder_9 (by decide) ?_
    refine lv_goto (pc := 10) (tgt := 14) hx hb dX4_isRemainder_10 (by decide) ?_
    refine lv_istore_n (pc := 14) (lv' := [(3, .int 1), (0, .ref y), (1, .int (nI t)), (2, .int g)]) hx hb dX4_isRemainder_14 rfl hl (by decide) rfl (fun ls hl => ?_)
    refine lv_iconst (pc := 15) (v := 0) hx hb dX4_isRemainder_15 (by decide) ?_
    refine lv_istore (pc := 16) (lv' := [(4, .int 0), (3, .int 1), (0, .ref y), (1, .int (nI t)), (2, .int g)]) hx hb dX4_isRemainder_16 hl (by decide) rfl (fun ls hl => ?_)
    have loop_18 : ∀ (fu9 : Nat) (k : Nat) (a : Int32), bn - k < fu9 → (k ≤ bn) → (a = bv_b (!bv_de bs bn t g && bv_all (fun k => t.testBit k || bv_de bs bn (t ||| 2 ^ k) g) k)) → ∀ (ls : Array Slot), lv_has ls 5 [(4, .int (nI k)), (3, .int a), (0, .ref y), (1, .int (nI t)), (2, .int g)] → W p l e (headSpec wsX4_isRemainder ({ frames := 3, cells := 0, slots := 0, locals := 66 })).room s m ([.ref y, .int (nI t), .int g] : List Value).toArray below meth c s.heap [] 0 0 (MQ below (vp_Si (fun r9 : Int32 => r9 = (bv_b (bv_ir bs bn g t)))) ([.ref y, .int (nI t), .int g] : List Value).toArray s 0 0 (fun _ => False)) (F0 m 18 ls []) := by
      intro fu9
      induction fu9 with
      | zero => intro k a hfu; exact absurd hfu (Nat.not_lt_zero _)
      | succ fu9 ih =>
        intro k a hfu hk hi ls hl
        refine lv_iload (pc := 18) hx hb dX4_isRemainder_18 (lv_at hl 0 rfl) ?_
        refine lv_aload_n (pc := 20) hx hb dX4_isRemainder_20 rfl (lv_at hl 2 rfl) ?_
        refine va_get (pc := 21) (D := G) (ci := 4) (v := .int (nI bn)) (C := RX4) (T := TX4) (N := 7) hx hb hts hw1 hown hK hP 0 rfl rfl 3 (by decide) hw0 (fun _ h9 => h9) rfl dX4_isRemainder_21 ?_
        refine lv_icmp_ge (pc := 24) (tgt := 66) hx hb dX4_isRemainder_24 (by decide) (fun c24_12 => ?_) (fun c24_12 => ?_)
        · have hkn : bn = k := by
            by_cases h : k < bn
            · exact absurd c24_12 (nI_ge h (by omega))
            · omega
          subst hkn
          refine lv_iload_n (pc := 66) hx hb dX4_isRemainder_66 rfl (lv_at hl 1 rfl) ?_
          rw [hi]
          exact W.zret (pc := 67) (v := (bv_b (!bv_de bs bn t g && bv_all (fun k => t.testBit k || bv_de bs bn (t ||| 2 ^ k) g) bn))) hx hb hr (bv_nz _) (fun T8 hT8 hW8 => ⟨(bv_b (!bv_de bs bn t g && bv_all (fun k => t.testBit k || bv_de bs bn (t ||| 2 ^ k) g) bn)), rfl, (by rw [bv_ir]), hT8⟩) (fun _ h => nomatch h) dX4_isRemainder_67
        · have hkn : k < bn := by
            by_cases h : k < bn
            · exact h
            · exact absurd (nI_le (by omega) (by omega)) c24_12
          refine lv_iload_n (pc := 27) hx hb dX4_isRemainder_27 rfl (lv_at hl 1 rfl) ?_
          refine lv_if_eq (pc := 28) (tgt := 58) hx hb dX4_isRemainder_28 (by decide) (fun c28_13 => ?_) (fun c28_13 => ?_)
          · have h2 : (!bv_de bs bn t g && bv_all (fun k => t.testBit k || bv_de bs bn (t ||| 2 ^ k) g) k) = false := by rw [hi] at c28_13; exact bv_b0.mp c28_13
            refine lv_iconst (pc := 58) (v := 0) hx hb dX4_isRemainder_58 (by decide) ?_
            refine lv_istore_n (pc := 59) (lv' := [(3, .int 0), (4, .int (nI k)), (0, .ref y), (1, .int (nI t)), (2, .int g)]) hx hb dX4_isRemainder_59 rfl hl (by decide) rfl (fun ls hl => ?_)
            refine lv_iinc (pc := 60) (v := (nI (k + 1))) (lv' := [(4, .int (nI (k + 1))), (3, .int 0), (0, .ref y), (1, .int (nI t)), (2, .int g)]) hx hb dX4_isRemainder_60 hl (k := 1) rfl (nI_1 k) (by decide) rfl (fun ls hl => ?_)
            refine lv_goto (pc := 63) (tgt := 18) hx hb dX4_isRemainder_63 (by decide) ?_
            exact ih (k + 1) 0 (by omega) (by omega) (by rw [bv_all, ← Bool.and_assoc, h2]; rfl) ls (lv_sub hl [0, 1, 2, 3, 4] rfl)
          · have h2 : (!bv_de bs bn t g && bv_all (fun k => t.testBit k || bv_de bs bn (t ||| 2 ^ k) g) k) = true := by rw [hi] at c28_13; exact bv_b1.mp c28_13
            refine lv_iload_n (pc := 31) hx hb dX4_isRemainder_31 rfl (lv_at hl 3 rfl) ?_
            refine lv_iload (pc := 32) hx hb dX4_isRemainder_32 (lv_at hl 0 rfl) ?_
            have hPc := hP.sub (ws' := []) [] rfl
            refine bv_cSi (pc := 34) (E' := (bv_b (t.testBit k))) (va_runS (As := [.int (nI t), .int (nI k)]) (rest := []) ⟨hx, hb, hml, hown, hts⟩ (m_X4_has l G cI (nI t) (nI k) ) (va_cwS 2 hts gX4_isRemainder_X4_has rfl rfl rfl (by decide +kernel) ⟨Nat.le_of_ble_eq_true rfl, Nat.le_of_ble_eq_true rfl⟩) (bv_pS hE hPc) rfl rfl hl.1 rfl (lv_room (Nat.le_of_ble_eq_true rfl)) dX4_isRemainder_34 ⟨Nat.le_of_ble_eq_true rfl, Nat.le_of_ble_eq_true rfl⟩) (by rw [bv_has_nI (by omega) (by omega)]) ?_
            refine lv_if_ne (pc := 37) (tgt := 54) hx hb dX4_isRemainder_37 (by decide) (fun c37_16 => ?_) (fun c37_16 => ?_)
            · have h3 := bv_b1.mp c37_16
              refine lv_iconst (pc := 54) (v := 1) hx hb dX4_isRemainder_54 (by decide) ?_
              refine lv_goto (pc := 55) (tgt := 59) hx hb dX4_isRemainder_55 (by decide) ?_
              refine lv_istore_n (pc := 59) (lv' := [(3, .int 1), (4, .int (nI k)), (0, .ref y), (1, .int (nI t)), (2, .int g)]) hx hb dX4_isRemainder_59 rfl hl (by decide) rfl (fun ls hl => ?_)
              refine lv_iinc (pc := 60) (v := (nI (k + 1))) (lv' := [(4, .int (nI (k + 1))), (3, .int 1), (0, .ref y), (1, .int (nI t)), (2, .int g)]) hx hb dX4_isRemainder_60 hl (k := 1) rfl (nI_1 k) (by decide) rfl (fun ls hl => ?_)
              refine lv_goto (pc := 63) (tgt := 18) hx hb dX4_isRemainder_63 (by decide) ?_
              exact ih (k + 1) 1 (by omega) (by omega) (by rw [bv_all, ← Bool.and_assoc, h2]; simp only [h3]; rfl) ls (lv_sub hl [0, 1, 2, 3, 4] rfl)
            · have h3 := bv_b0.mp c37_16
              refine lv_aload_n (pc := 40) hx hb dX4_isRemainder_40 rfl (lv_at hl 2 rfl) ?_
              refine lv_iload_n (pc := 41) hx hb dX4_isRemainder_41 rfl (lv_at hl 3 rfl) ?_
              refine lv_iconst (pc := 42) (v := 1) hx hb dX4_isRemainder_42 (by decide) ?_
              refine lv_iload (pc := 43) hx hb dX4_isRemainder_43 (lv_at hl 0 rfl) ?_
              refine lv_ishl (pc := 45) hx hb dX4_isRemainder_45 ?_
              refine lv_ior (pc := 46) hx hb dX4_isRemainder_46 ?_
              refine lv_iload_n (pc := 47) hx hb dX4_isRemainder_47 rfl (lv_at hl 4 rfl) ?_
              rw [show (nI t ||| ((1 : Int32) <<< (nI k &&& 31))) = nI (t ||| 2 ^ k) from bv_obit (by omega)]
              have hPc := hP.sub (ws' := [(y, .inr (4, [.int th, .int h9, .ref yp, .int (nI bn), .ref yb, .ref yr, .ref yl])), (yb, .inl (cI, 10, .inl bs)), (yr, .inl (cI, 10, .inl br))]) [0, 1, 2] rfl
              refine bv_cSi (pc := 48) (E' := (bv_b (bv_de bs bn (t ||| 2 ^ k) g))) (va_runV (As := [.int (nI (t ||| 2 ^ k)), .int g]) (rest := []) ⟨hx, hb, hml, hown, hts⟩ (m_X4_doEntail l G cI y yp yb yr yl bn th h9 bs br (t ||| 2 ^ k) g hn (bv_olt ht (by omega))) (cwV 2 hts gX4_isRemainder_X4_doEntail rfl rfl rfl (by decide +kernel) ⟨Nat.le_of_ble_eq_true rfl, Nat.le_of_ble_eq_true rfl⟩) (bv_pV hE hPc (va_recv hK hP (ci := 4) (q0 := 0) rfl rfl)) rfl rfl hl.1 rfl (lv_room (Nat.le_of_ble_eq_true rfl)) dX4_isRemainder_48 ⟨Nat.le_of_ble_eq_true rfl, Nat.le_of_ble_eq_true rfl⟩) rfl ?_
              refine lv_if_eq (pc := 51) (tgt := 58) hx hb dX4_isRemainder_51 (by decide) (fun c51_19 => ?_) (fun c51_19 => ?_)
              · have h4 := bv_b0.mp c51_19
                refine lv_iconst (pc := 58) (v := 0) hx hb dX4_isRemainder_58 (by decide) ?_
                refine lv_istore_n (pc := 59) (lv' := [(3, .int 0), (4, .int (nI k)), (0, .ref y), (1, .int (nI t)), (2, .int g)]) hx hb dX4_isRemainder_59 rfl hl (by decide) rfl (fun ls hl => ?_)
                refine lv_iinc (pc := 60) (v := (nI (k + 1))) (lv' := [(4, .int (nI (k + 1))), (3, .int 0), (0, .ref y), (1, .int (nI t)), (2, .int g)]) hx hb dX4_isRemainder_60 hl (k := 1) rfl (nI_1 k) (by decide) rfl (fun ls hl => ?_)
                refine lv_goto (pc := 63) (tgt := 18) hx hb dX4_isRemainder_63 (by decide) ?_
                exact ih (k + 1) 0 (by omega) (by omega) (by rw [bv_all]; simp only [h3, h4]; rw [show (false || false) = false from rfl, Bool.and_false, Bool.and_false]; rfl) ls (lv_sub hl [0, 1, 2, 3, 4] rfl)
              · have h4 := bv_b1.mp c51_19
                refine lv_iconst (pc := 54) (v := 1) hx hb dX4_isRemainder_54 (by decide) ?_
                refine lv_goto (pc := 55) (tgt := 59) hx hb dX4_isRemainder_55 (by decide) ?_
                refine lv_istore_n (pc := 59) (lv' := [(3, .int 1), (4, .int (nI k)), (0, .ref y), (1, .int (nI t)), (2, .int g)]) hx hb dX4_isRemainder_59 rfl hl (by decide) rfl (fun ls hl => ?_)
                refine lv_iinc (pc := 60) (v := (nI (k + 1))) (lv' := [(4, .int (nI (k + 1))), (3, .int 1), (0, .ref y), (1, .int (nI t)), (2, .int g)]) hx hb dX4_isRemainder_60 hl (k := 1) rfl (nI_1 k) (by decide) rfl (fun ls hl => ?_)
                refine lv_goto (pc := 63) (tgt := 18) hx hb dX4_isRemainder_63 (by decide) ?_
                exact ih (k + 1) 1 (by omega) (by omega) (by rw [bv_all, ← Bool.and_assoc, h2]; simp only [h3, h4]; rfl) ls (lv_sub hl [0, 1, 2, 3, 4] rfl)
    exact loop_18 (bn - 0 + 1) 0 1 (Nat.lt_succ_self _) (Nat.zero_le _) (by rw [bv_all, Bool.and_true]; first | (rw [h0]; rfl)) ls (lv_sub hl [0, 1, 2, 3, 4] rfl)
set_option maxHeartbeats 4000000 in
set_option maxRecDepth 100000 in
theorem m_X4_is (l : Launch) (G : va_G) (cI : ClassId) (y yp yb yr yl pn bn : Nat) (th : Int32) (pf bs br lv : Nat → Int32) (b : Bool) (t : Nat) (hp : pn ≤ 12) (h1 : 1 ≤ pn) (hn : bn ≤ 10) (ht : t < 2 ^ bn) : Met l yX4_is wsX4_is ({ frames := 4, cells := 0, slots := 0, locals := 90 }) (bv_P [.ref y, .int (bv_b b), .int (nI t)] G cI (fun H => va_P G vwCl [(y, .inr (4, [.int th, .int (nI pn), .ref yp, .int (nI bn), .ref yb, .ref yr, .ref yl])), (yp, .inl (cI, 12, .inl pf)), (yb, .inl (cI, 10, .inl bs)), (yr, .inl (cI, 10, .inl br)), (yl, .inl (cI, 16, .inl lv))] H)) (vp_Si (fun r9 : Int32 => r9 = (bv_b (bv_is b bs bn (pf (pn - 1)) t)))) 0 0 (fun _ => False) := by
  refine Met.ofW (cc := cX4_is) (maxL := 3) (ret := (some .boolean)) (by decide) rfl ?_
  intro p e s m args below meth c s₁ B hml hv
  obtain ⟨rfl, hP, hE⟩ := hv
  have hx := B.exec
  have hb := B.bytes
  have hr := B.returns
  have hts := atoms_spec (ws := wsX4_is) B.pre
  have hown : s.vm.findClass RX4 = some m.cls := findClass_of_methodNamed B.named
  have hlocks := B.notSynchronized
  have hK := hE.1
  have hP : va_P G vwCl [(y, .inr (4, [.int th, .int (nI pn), .ref yp, .int (nI bn), .ref yb, .ref yr, .ref yl])), (yp, .inl (cI, 12, .inl pf)), (yb, .inl (cI, 10, .inl bs)), (yr, .inl (cI, 10, .inl br)), (yl, .inl (cI, 16, .inl lv))] s.heap := hP
  have hl := lv_entry ([.ref y, .int (bv_b b), .int (nI t)]) (n := 3) (Nat.le_of_ble_eq_true rfl)
  rw [lg_entry_eq]
  generalize (lg_sl ([.ref y, .int (bv_b b), .int (nI t)]) ++ List.replicate (3 - (lg_sl ([.ref y, .int (bv_b b), .int (nI t)])).length) Slot.unset).toArray = ls at hl ⊢
  have hl : lv_has ls 3 [(0, .ref y), (1, .int (bv_b b)), (2, .int (nI t))] := hl
  refine lv_iload_n (pc := 0) hx hb dX4_is_0 rfl (lv_at hl 1 rfl) ?_
  refine lv_if_eq (pc := 1) (tgt := 17) hx hb dX4_is_1 (by decide) (fun c1_1 => ?_) (fun c1_1 => ?_)
  · have h2 := bv_b0.mp c1_1
    refine lv_aload_n (pc := 17) hx hb dX4_is_17 rfl (lv_at hl 0 rfl) ?_
    refine lv_iload_n (pc := 18) hx hb dX4_is_18 rfl (lv_at hl 2 rfl) ?_
    refine lv_aload_n (pc := 19) hx hb dX4_is_19 rfl (lv_at hl 0 rfl) ?_
    refine lv_iconst (pc := 20) (v := 0) hx hb dX4_is_20 (by decide) ?_
    have hPc := hP.sub (ws' := [(y, .inr (4, [.int th, .int (nI pn), .ref yp, .int (nI bn), .ref yb, .ref yr, .ref yl])), (yp, .inl (cI, 12, .inl pf))]) [0, 1] rfl
    refine bv_cSi (pc := 21) (E' := (pf (pn - 1))) (va_runV (As := [.int 0]) (rest := [.int (nI t), .ref y]) ⟨hx, hb, hml, hown, hts⟩ (m_X4_top l G cI y yp yb yr yl pn th (nI bn) pf 0 h1 hp) (cwV 1 hts gX4_is_X4_top rfl rfl rfl (by decide +kernel) ⟨Nat.le_of_ble_eq_true rfl, Nat.le_of_ble_eq_true rfl⟩) (bv_pV hE hPc (va_recv hK hP (ci := 4) (q0 := 0) rfl rfl)) rfl rfl hl.1 rfl (lv_room (Nat.le_of_ble_eq_true rfl)) dX4_is_21 ⟨Nat.le_of_ble_eq_true rfl, Nat.le_of_ble_eq_true rfl⟩) (by rw [Nat.sub_zero]) ?_
    have hPc := hP.sub (ws' := [(y, .inr (4, [.int th, .int (nI pn), .ref yp, .int (nI bn), .ref yb, .ref yr, .ref yl])), (yb, .inl (cI, 10, .inl bs)), (yr, .inl (cI, 10, .inl br))]) [0, 2, 3] rfl
    refine bv_cSi (pc := 24) (E' := (bv_b (bv_ir bs bn (pf (pn - 1)) t))) (va_runV (As := [.int (nI t), .int (pf (pn - 1))]) (rest := []) ⟨hx, hb, hml, hown, hts⟩ (m_X4_isRemainder l G cI y yp yb yr yl bn th (nI pn) bs br t (pf (pn - 1)) hn ht) (cwV 2 hts gX4_is_X4_isRemainder rfl rfl rfl (by decide +kernel) ⟨Nat.le_of_ble_eq_true rfl, Nat.le_of_ble_eq_true rfl⟩) (bv_pV hE hPc (va_recv hK hP (ci := 4) (q0 := 0) rfl rfl)) rfl rfl hl.1 rfl (lv_room (Nat.le_of_ble_eq_true rfl)) dX4_is_24 ⟨Nat.le_of_ble_eq_true rfl, Nat.le_of_ble_eq_true rfl⟩) rfl ?_
    exact W.zret (pc := 27) (v := (bv_b (bv_ir bs bn (pf (pn - 1)) t))) hx hb hr (bv_nz _) (fun T8 hT8 hW8 => ⟨(bv_b (bv_ir bs bn (pf (pn - 1)) t)), rfl, (by rw [bv_is, h2]; rfl), hT8⟩) (fun _ h => nomatch h) dX4_is_27
  · have h2 := bv_b1.mp c1_1
    refine lv_aload_n (pc := 4) hx hb dX4_is_4 rfl (lv_at hl 0 rfl) ?_
    refine lv_iload_n (pc := 5) hx hb dX4_is_5 rfl (lv_at hl 2 rfl) ?_
    refine lv_aload_n (pc := 6) hx hb dX4_is_6 rfl (lv_at hl 0 rfl) ?_
    refine lv_iconst (pc := 7) (v := 0) hx hb dX4_is_7 (by decide) ?_
    have hPc := hP.sub (ws' := [(y, .inr (4, [.int th, .int (nI pn), .ref yp, .int (nI bn), .ref yb, .ref yr, .ref yl])), (yp, .inl (cI, 12, .inl pf))]) [0, 1] rfl
    refine bv_cSi (pc := 8) (E' := (pf (pn - 1))) (va_runV (As := [.int 0]) (rest := [.int (nI t), .ref y]) ⟨hx, hb, hml, hown, hts⟩ (m_X4_top l G cI y yp yb yr yl pn th (nI bn) pf 0 h1 hp) (cwV 1 hts gX4_is_X4_top rfl rfl rfl (by decide +kernel) ⟨Nat.le_of_ble_eq_true rfl, Nat.le_of_ble_eq_true rfl⟩) (bv_pV hE hPc (va_recv hK hP (ci := 4) (q0 := 0) rfl rfl)) rfl rfl hl.1 rfl (lv_room (Nat.le_of_ble_eq_true rfl)) dX4_is_8 ⟨Nat.le_of_ble_eq_true rfl, Nat.le_of_ble_eq_true rfl⟩) (by rw [Nat.sub_zero]) ?_
    have hPc := hP.sub (ws' := [(y, .inr (4, [.int th, .int (nI pn), .ref yp, .int (nI bn), .ref yb, .ref yr, .ref yl])), (yb, .inl (cI, 10, .inl bs)), (yr, .inl (cI, 10, .inl br))]) [0, 2, 3] rfl
    refine bv_cSi (pc := 11) (E' := (bv_b (bv_ik bs bn (pf (pn - 1)) t))) (va_runV (As := [.int (nI t), .int (pf (pn - 1))]) (rest := []) ⟨hx, hb, hml, hown, hts⟩ (m_X4_isKernel l G cI y yp yb yr yl bn th (nI pn) bs br t (pf (pn - 1)) hn ht) (cwV 2 hts gX4_is_X4_isKernel rfl rfl rfl (by decide +kernel) ⟨Nat.le_of_ble_eq_true rfl, Nat.le_of_ble_eq_true rfl⟩) (bv_pV hE hPc (va_recv hK hP (ci := 4) (q0 := 0) rfl rfl)) rfl rfl hl.1 rfl (lv_room (Nat.le_of_ble_eq_true rfl)) dX4_is_11 ⟨Nat.le_of_ble_eq_true rfl, Nat.le_of_ble_eq_true rfl⟩) rfl ?_
    refine lv_goto (pc := 14) (tgt := 27) hx hb dX4_is_14 (by decide) ?_
    exact W.zret (pc := 27) (v := (bv_b (bv_ik bs bn (pf (pn - 1)) t))) hx hb hr (bv_nz _) (fun T8 hT8 hW8 => ⟨(bv_b (bv_ik bs bn (pf (pn - 1)) t)), rfl, (by rw [bv_is, h2]; rfl), hT8⟩) (fun _ h => nomatch h) dX4_is_27
