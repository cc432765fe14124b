set_option maxHeartbeats 4000000 in
set_option maxRecDepth 100000 in
theorem m_X1_isFirst (l : Launch) (G : va_G) (cI : ClassId) (q n : Nat) (f : Nat → Int32) (i : Nat) (hin : i < n) (hn : n ≤ 1024) : Met l yX1_isFirst wsX1_isFirst ({ frames := 1, cells := 0, slots := 0, locals := 21 }) (bv_P [.ref q, .int (nI i)] G cI (fun H => va_P G vwCl [(q, .inl (cI, n, .inl f))] H)) (vp_Si (fun r9 : Int32 => r9 = (bv_b (bv_fst f i)))) 0 0 (fun _ => False) := by
  refine Met.ofW (cc := cX1_isFirst) (maxL := 3) (ret := (some .boolean)) (by decide) rfl ?_
  intro p e s m args below meth c s₁ B hml hv
  obtain ⟨rfl, hP, hE⟩ := hv
  have hx := B.exec
  have hb := B.bytes
  have hr := B.returns
  have hts := atoms_spec (ws := wsX1_isFirst) B.pre
  have hown : s.vm.findClass RX1 = some m.cls := findClass_of_methodNamed B.named
  have hlocks := B.notSynchronized
  have hK := hE.1
  have hw0 := hts (.static yX3_at) (List.mem_of_getElem? (i := 1) rfl)
  have hw1 := hts (.initialized RX3) (List.mem_of_getElem? (i := 2) rfl)
  have hw2 : va_Nw (.methodLinkNest RX1 18 yX3_at RX3) s := hE.2 (RX1, 18, yX3_at) (List.mem_of_getElem? (i := 6) rfl)
  have hP : va_P G vwCl [(q, .inl (cI, n, .inl f))] s.heap := hP
  have hl := lv_entry ([.ref q, .int (nI i)]) (n := 3) (Nat.le_of_ble_eq_true rfl)
  rw [lg_entry_eq]
  generalize (lg_sl ([.ref q, .int (nI i)]) ++ List.replicate (3 - (lg_sl ([.ref q, .int (nI i)])).length) Slot.unset).toArray = ls at hl ⊢
  have hl : lv_has ls 3 [(0, .ref q), (1, .int (nI i))] := hl
  refine lv_iconst (pc := 0) (v := 0) hx hb dX1_isFirst_0 (by decide) ?_
  refine lv_istore_n (pc := 1) (lv' := [(2, .int 0), (0, .ref q), (1, .int (nI i))]) hx hb dX1_isFirst_1 rfl hl (by decide) rfl (fun ls hl => ?_)
  have loop_2 : ∀ (fu9 : Nat) (k : Nat), i - k < fu9 → (k ≤ i) → (bv_all (fun j => !decide (f j = f i)) k = true) → ∀ (ls : Array Slot), lv_has ls 3 [(2, .int (nI k)), (0, .ref q), (1, .int (nI i))] → W p l e (headSpec wsX1_isFirst ({ frames := 1, cells := 0, slots := 0, locals := 21 })).room s m ([.ref q, .int (nI i)] : List Value).toArray below meth c s.heap [] 0 0 (MQ below (vp_Si (fun r9 : Int32 => r9 = (bv_b (bv_fst f i)))) ([.ref q, .int (nI i)] : List Value).toArray s 0 0 (fun _ => False)) (F0 m 2 ls []) := by
    intro fu9
    induction fu9 with
    | zero => intro k hfu; exact absurd hfu (Nat.not_lt_zero _)
    | succ fu9 ih =>
      intro k hfu hk hi ls hl
      refine lv_iload_n (pc := 2) hx hb dX1_isFirst_2 rfl (lv_at hl 0 rfl) ?_
      refine lv_iload_n (pc := 3) hx hb dX1_isFirst_3 rfl (lv_at hl 2 rfl) ?_
      refine lv_icmp_ge (pc := 4) (tgt := 28) hx hb dX1_isFirst_4 (by decide) (fun c4_1 => ?_) (fun c4_1 => ?_)
      · have hkn : i = k := by
          by_cases h : k < i
          · exact absurd c4_1 (nI_ge h (by omega))
          · omega
        subst hkn
        refine lv_iconst (pc := 28) (v := 1) hx hb dX1_isFirst_28 (by decide) ?_
        exact W.zret (pc := 29) (v := 1) hx hb hr rfl (fun T8 hT8 hW8 => ⟨1, rfl, (by rw [bv_fst, hi]; rfl), hT8⟩) (fun _ h => nomatch h) dX1_isFirst_29
      · have hkn : k < i := by
          by_cases h : k < i
          · exact h
          · exact absurd (nI_le (by omega) (by omega)) c4_1
        refine lv_aload_n (pc := 7) hx hb dX1_isFirst_7 rfl (lv_at hl 1 rfl) ?_
        refine lv_iload_n (pc := 8) hx hb dX1_isFirst_8 rfl (lv_at hl 0 rfl) ?_
        have hPc := hP.sub (ws' := [(q, .inl (cI, n, .inl f))]) [0] rfl
        refine bv_cSi (pc := 9) (E' := (f k)) (va_runSN (As := [.ref q, .int (nI k)]) (rest := []) ⟨hx, hb, hml, hown, hts⟩ (m_X3_at l G cI q n f (nI k) (by omega)) ⟨va_cnB 2 hts gX1_isFirst_X3_at_n18 rfl rfl rfl hw2 hw1 (by decide +kernel) ⟨Nat.le_of_ble_eq_true rfl, Nat.le_of_ble_eq_true rfl⟩, hw0, trivial⟩ (bv_pS hE hPc) rfl rfl hl.1 rfl (lv_room (Nat.le_of_ble_eq_true rfl)) dX1_isFirst_9 ⟨Nat.le_of_ble_eq_true rfl, Nat.le_of_ble_eq_true rfl⟩) (bv_at_nI (by omega) (by omega)) ?_
        refine lv_aload_n (pc := 12) hx hb dX1_isFirst_12 rfl (lv_at hl 1 rfl) ?_
        refine lv_iload_n (pc := 13) hx hb dX1_isFirst_13 rfl (lv_at hl 2 rfl) ?_
        have hPc := hP.sub (ws' := [(q, .inl (cI, n, .inl f))]) [0] rfl
        refine bv_cSi (pc := 14) (E' := (f i)) (va_runSN (As := [.ref q, .int (nI i)]) (rest := [.int (f k)]) ⟨hx, hb, hml, hown, hts⟩ (m_X3_at l G cI q n f (nI i) (by omega)) ⟨va_cnB 2 hts gX1_isFirst_X3_at_n18 rfl rfl rfl hw2 hw1 (by decide +kernel) ⟨Nat.le_of_ble_eq_true rfl, Nat.le_of_ble_eq_true rfl⟩, hw0, trivial⟩ (bv_pS hE hPc) rfl rfl hl.1 rfl (lv_room (Nat.le_of_ble_eq_true rfl)) dX1_isFirst_14 ⟨Nat.le_of_ble_eq_true rfl, Nat.le_of_ble_eq_true rfl⟩) (bv_at_nI (by omega) (by omega)) ?_
        refine lv_icmp_ne (pc := 17) (tgt := 22) hx hb dX1_isFirst_17 (by decide) (fun c17_6 => ?_) (fun c17_6 => ?_)
        · have h2 := c17_6
          refine lv_iinc (pc := 22) (v := (nI (k + 1))) (lv' := [(2, .int (nI (k + 1))), (0, .ref q), (1, .int (nI i))]) hx hb dX1_isFirst_22 hl (k := 0) rfl (nI_1 k) (by decide) rfl (fun ls hl => ?_)
          refine lv_goto (pc := 25) (tgt := 2) hx hb dX1_isFirst_25 (by decide) ?_
          exact ih (k + 1) (by omega) (by omega) (by rw [bv_all, hi, decide_eq_false h2]; rfl) ls (lv_sub hl [0, 1, 2] rfl)
        · have h2 := c17_6
          refine lv_iconst (pc := 20) (v := 0) hx hb dX1_isFirst_20 (by decide) ?_
          exact W.zret (pc := 21) (v := 0) hx hb hr rfl (fun T8 hT8 hW8 => ⟨0, rfl, (by rw [bv_fst, bv_allF hkn (by rw [decide_eq_true h2]; rfl)]; rfl), hT8⟩) (fun _ h => nomatch h) dX1_isFirst_21
  exact loop_2 (i - 0 + 1) 0 (Nat.lt_succ_self _) (Nat.zero_le _) rfl ls (lv_sub hl [0, 1, 2] rfl)
set_option maxHeartbeats 4000000 in
set_option maxRecDepth 100000 in
theorem m_X1_countDifferent (l : Launch) (G : va_G) (cI : ClassId) (q n : Nat) (f : Nat → Int32) (bd : Int32) (hn : n ≤ 1024) : Met l yX1_countDifferent wsX1_countDifferent ({ frames := 2, cells := 0, slots := 0, locals := 43 }) (bv_P [.ref q, .int bd] G cI (fun H => va_P G vwCl [(q, .inl (cI, n, .inl f))] H)) (vp_Si (fun r9 : Int32 => r9 = (nI (bv_cd f bd n)))) 0 0 (fun _ => False) := by
  refine Met.ofW (cc := cX1_countDifferent) (maxL := 4) (ret := (some .int)) (by decide) rfl ?_
  intro p e s m args below meth c s₁ B hml hv
  obtain ⟨rfl, hP, hE⟩ := hv
  have hx := B.exec
  have hb := B.bytes
  have hr := B.returns
  have hts := atoms_spec (ws := wsX1_countDifferent) B.pre
  have hown : s.vm.findClass RX1 = some m.cls := findClass_of_methodNamed B.named
  have hlocks := B.notSynchronized
  have hK := hE.1
  have hw0 := hts (.static yX1_isFirst) (List.mem_of_getElem? (i := 2) rfl)
  have hP : va_P G vwCl [(q, .inl (cI, n, .inl f))] s.heap := hP
  have hl := lv_entry ([.ref q, .int bd]) (n := 4) (Nat.le_of_ble_eq_true rfl)
  rw [lg_entry_eq]
  generalize (lg_sl ([.ref q, .int bd]) ++ List.replicate (4 - (lg_sl ([.ref q, .int bd])).length) Slot.unset).toArray = ls at hl ⊢
  have hl : lv_has ls 4 [(0, .ref q), (1, .int bd)] := hl
  refine lv_iconst (pc := 0) (v := 0) hx hb dX1_countDifferent_0 (by decide) ?_
  refine lv_istore_n (pc := 1) (lv' := [(2, .int 0), (0, .ref q), (1, .int bd)]) hx hb dX1_countDifferent_1 rfl hl (by decide) rfl (fun ls hl => ?_)
  refine lv_iconst (pc := 2) (v := 0) hx hb dX1_countDifferent_2 (by decide) ?_
  refine lv_istore_n (pc := 3) (lv' := [(3, .int 0), (2, .int 0), (0, .ref q), (1, .int bd)]) hx hb dX1_countDifferent_3 rfl hl (by decide) rfl (fun ls hl => ?_)
  have loop_4 : ∀ (fu9 : Nat) (k : Nat) (a : Int32), n - k < fu9 → (k ≤ n) → (a = nI (bv_cd f bd k)) → ∀ (ls : Array Slot), lv_has ls 4 [(3, .int (nI k)), (2, .int a), (0, .ref q), (1, .int bd)] → W p l e (headSpec wsX1_countDifferent ({ frames := 2, cells := 0, slots := 0, locals := 43 })).room s m ([.ref q, .int bd] : List Value).toArray below meth c s.heap [] 0 0 (MQ below (vp_Si (fun r9 : Int32 => r9 = (nI (bv_cd f bd n)))) ([.ref q, .int bd] : List Value).toArray s 0 0 (fun _ => False)) (F0 m 4 ls []) := by
    intro fu9
    induction fu9 with
    | zero => intro k a hfu; exact absurd hfu (Nat.not_lt_zero _)
    | succ fu9 ih =>
      intro k a hfu hk hi ls hl
      refine lv_iload_n (pc := 4) hx hb dX1_countDifferent_4 rfl (lv_at hl 0 rfl) ?_
      refine lv_aload_n (pc := 5) hx hb dX1_countDifferent_5 rfl (lv_at hl 2 rfl) ?_
      refine va_alen (pc := 6) (v := (nI n)) hx hb hK hP 0 0 rfl rfl rfl dX1_countDifferent_6 ?_
      refine lv_icmp_ge (pc := 7) (tgt := 34) hx hb dX1_countDifferent_7 (by decide) (fun c7_1 => ?_) (fun c7_1 => ?_)
      · have hkn : n = k := by
          by_cases h : k < n
          · exact absurd c7_1 (nI_ge h (by omega))
          · omega
        subst hkn
        refine lv_iload_n (pc := 34) hx hb dX1_countDifferent_34 rfl (lv_at hl 1 rfl) ?_
        exact W.iret (pc := 35) (v := a) hx hb hr (fun T8 hT8 hW8 => ⟨a, rfl, hi, hT8⟩) (fun _ h => nomatch h) dX1_countDifferent_35
      · have hkn : k < n := by
          by_cases h : k < n
          · exact h
          · exact absurd (nI_le (by omega) (by omega)) c7_1
        refine lv_aload_n (pc := 10) hx hb dX1_countDifferent_10 rfl (lv_at hl 2 rfl) ?_
        refine lv_iload_n (pc := 11) hx hb dX1_countDifferent_11 rfl (lv_at hl 0 rfl) ?_
        refine va_iald (pc := 12) hx hb hK hP 0 0 rfl rfl (vp_in_nI (by omega) (by omega)) dX1_countDifferent_12 ?_
        rw [show (f (nI k).toNatClampNeg) = (f k) from by rw [nI_clamp (by omega)]]
        refine lv_iload_n (pc := 13) hx hb dX1_countDifferent_13 rfl (lv_at hl 3 rfl) ?_
        refine lv_icmp_ge (pc := 14) (tgt := 28) hx hb dX1_countDifferent_14 (by decide) (fun c14_2 => ?_) (fun c14_2 => ?_)
        · have h2 := c14_2
          refine lv_iinc (pc := 28) (v := (nI (k + 1))) (lv' := [(3, .int (nI (k + 1))), (2, .int a), (0, .ref q), (1, .int bd)]) hx hb dX1_countDifferent_28 hl (k := 0) rfl (nI_1 k) (by decide) rfl (fun ls hl => ?_)
          refine lv_goto (pc := 31) (tgt := 4) hx hb dX1_countDifferent_31 (by decide) ?_
          exact ih (k + 1) a (by omega) (by omega) (by rw [bv_cd, if_neg (fun z => absurd z.1 (Int32.not_lt.mpr h2)), hi]) ls (lv_sub hl [0, 1, 2, 3] rfl)
        · have h2 := c14_2
          refine lv_aload_n (pc := 17) hx hb dX1_countDifferent_17 rfl (lv_at hl 2 rfl) ?_
          refine lv_iload_n (pc := 18) hx hb dX1_countDifferent_18 rfl (lv_at hl 0 rfl) ?_
          have hPc := hP.sub (ws' := [(q, .inl (cI, n, .inl f))]) [0] rfl
          refine bv_cSi (pc := 19) (E' := (bv_b (bv_fst f k))) (va_runS (As := [.ref q, .int (nI k)]) (rest := []) ⟨hx, hb, hml, hown, hts⟩ (m_X1_isFirst l G cI q n f k (by omega) hn) (va_cwS 2 hts gX1_countDifferent_X1_isFirst rfl rfl rfl (by decide +kernel) ⟨Nat.le_of_ble_eq_true rfl, Nat.le_of_ble_eq_true rfl⟩) (bv_pS hE hPc) rfl rfl hl.1 rfl (lv_room (Nat.le_of_ble_eq_true rfl)) dX1_countDifferent_19 ⟨Nat.le_of_ble_eq_true rfl, Nat.le_of_ble_eq_true rfl⟩) rfl ?_
          refine lv_if_eq (pc := 22) (tgt := 28) hx hb dX1_countDifferent_22 (by decide) (fun c22_5 => ?_) (fun c22_5 => ?_)
          · have h3 := bv_b0.mp c22_5
            refine lv_iinc (pc := 28) (v := (nI (k + 1))) (lv' := [(3, .int (nI (k + 1))), (2, .int a), (0, .ref q), (1, .int bd)]) hx hb dX1_countDifferent_28 hl (k := 0) rfl (nI_1 k) (by decide) rfl (fun ls hl => ?_)
            refine lv_goto (pc := 31) (tgt := 4) hx hb dX1_countDifferent_31 (by decide) ?_
            exact ih (k + 1) a (by omega) (by omega) (by rw [bv_cd, if_neg (fun z => by rw [h3] at z; exact absurd z.2 (by decide)), hi]) ls (lv_sub hl [0, 1, 2, 3] rfl)
          · have h3 := bv_b1.mp c22_5
            refine lv_iinc (pc := 25) (v := (a + 1)) (lv' := [(2, .int (a + 1)), (3, .int (nI k)), (0, .ref q), (1, .int bd)]) hx hb dX1_countDifferent_25 hl (k := 1) rfl (rfl) (by decide) rfl (fun ls hl => ?_)
            refine lv_iinc (pc := 28) (v := (nI (k + 1))) (lv' := [(3, .int (nI (k + 1))), (2, .int (a + 1)), (0, .ref q), (1, .int bd)]) hx hb dX1_countDifferent_28 hl (k := 1) rfl (nI_1 k) (by decide) rfl (fun ls hl => ?_)
            refine lv_goto (pc := 31) (tgt := 4) hx hb dX1_countDifferent_31 (by decide) ?_
            exact ih (k + 1) (a + 1) (by omega) (by omega) (by rw [bv_cd, if_pos ⟨Int32.not_le.mp h2, h3⟩, hi]; exact nI_1 _) ls (lv_sub hl [0, 1, 2, 3] rfl)
  exact loop_4 (n - 0 + 1) 0 0 (Nat.lt_succ_self _) (Nat.zero_le _) rfl ls (lv_sub hl [0, 1, 2, 3] rfl)
set_option maxHeartbeats 4000000 in
set_option maxRecDepth 100000 in
theorem m_X1_setLevelsByKeys (l : Launch) (G : va_G) (cI : ClassId) (sz : Nat) (xm al ak : Nat) (lv ks : Nat → Int32) : Met l yX1_setLevelsByKeys wsX1_setLevelsByKeys ({ frames := 3, cells := 0, slots := 0, locals := 66 }) (bv_P [.ref xm] G cI (fun H => H.size = sz ∧ va_P G vwCl [(xm, .inr (1, [.ref al, .ref ak])), (al, .inl (cI, 16, .inl lv)), (ak, .inl (cI, 16, .inl ks))] H ∧ va_D (fun _ => True) [(xm, .inr (1, [.ref al, .ref ak])), (al, .inl (cI, 16, .inl lv)), (ak, .inl (cI, 16, .inl ks))])) (va_Qv (fun _ : Unit => True) (fun (_ : Unit) (T9 : State) => va_P G vwCl [(xm, .inr (1, [.ref al, .ref ak])), (al, .inl (cI, 16, .inl (bv_byk lv ks))), (ak, .inl (cI, 16, .inl ks))] T9.heap) (va_A [(xm, .inr (1, [.ref al, .ref ak])), (al, .inl (cI, 16, .inl lv)), (ak, .inl (cI, 16, .inl ks))] sz)) 0 0 (va_A [(xm, .inr (1, [.ref al, .ref ak])), (al, .inl (cI, 16, .inl lv)), (ak, .inl (cI, 16, .inl ks))] sz) := by
  refine Met.ofW (cc := cX1_setLevelsByKeys) (maxL := 2) (ret := none) (by decide) rfl ?_
  intro p e s m args below meth c s₁ B hml hv
  obtain ⟨rfl, ⟨hsz, hP, hD0⟩, hE⟩ := hv
  have hx := B.exec
  have hb := B.bytes
  have hr := B.returns
  have hts := atoms_spec (ws := wsX1_setLevelsByKeys) B.pre
  have hown : s.vm.findClass RX1 = some m.cls := findClass_of_methodNamed B.named
  have hlocks := B.notSynchronized
  have hK := hE.1
  have hw0 := hts (.fieldLink RX1 9 "BeliefReviser$Mind" "levels" "[I") (List.mem_of_getElem? (i := 1) rfl)
  have hw1 : ∀ w ∈ u_ws RX1 TX1 2, w ∈ wsX1_setLevelsByKeys := by decide +kernel
  have hw2 := hts (.fieldLink RX1 15 "BeliefReviser$Mind" "keys" "[I") (List.mem_of_getElem? (i := 2) rfl)
  have hw3 := hts (.static yX3_at) (List.mem_of_getElem? (i := 3) rfl)
  have hw4 := hts (.initialized RX3) (List.mem_of_getElem? (i := 4) rfl)
  have hw5 : va_Nw (.methodLinkNest RX1 18 yX3_at RX3) s := hE.2 (RX1, 18, yX3_at) (List.mem_of_getElem? (i := 6) rfl)
  have hw6 := hts (.static yX1_countDifferent) (List.mem_of_getElem? (i := 7) rfl)
  subst hsz
  have hD := hD0.self (sz := s.heap.size)
  generalize hAe : va_A [(xm, .inr (1, [.ref al, .ref ak])), (al, .inl (cI, 16, .inl lv)), (ak, .inl (cI, 16, .inl ks))] s.heap.size = A at hD ⊢
  have hA : ∀ q : Nat, s.heap.size ≤ q → A q := fun q h => by rw [← hAe]; exact Or.inr h
  have hS : va_S A s.heap s.heap [] := va_S.rf
  have hP : va_P G vwCl [(xm, .inr (1, [.ref al, .ref ak])), (al, .inl (cI, 16, .inl lv)), (ak, .inl (cI, 16, .inl ks))] s.heap := hP
  have hl := lv_entry ([.ref xm]) (n := 2) (Nat.le_of_ble_eq_true rfl)
  rw [lg_entry_eq]
  generalize (lg_sl ([.ref xm]) ++ List.replicate (2 - (lg_sl ([.ref xm])).length) Slot.unset).toArray = ls at hl ⊢
  have hl : lv_has ls 2 [(0, .ref xm)] := hl
  refine lv_iconst (pc := 0) (v := 0) hx hb dX1_setLevelsByKeys_0 (by decide) ?_
  refine lv_istore_n (pc := 1) (lv' := [(1, .int 0), (0, .ref xm)]) hx hb dX1_setLevelsByKeys_1 rfl hl (by decide) rfl (fun ls hl => ?_)
  have loop_2 : ∀ (fu9 : Nat) (k : Nat), 16 - k < fu9 → (k ≤ 16) → ∀ (H : Heap) (locs : List Loc), va_P G vwCl [(xm, .inr (1, [.ref al, .ref ak])), (al, .inl (cI, 16, .inl (bv_put1 lv (fun w => nI (bv_cd ks (ks w) 16)) k))), (ak, .inl (cI, 16, .inl ks))] H → va_D A [(xm, .inr (1, [.ref al, .ref ak])), (al, .inl (cI, 16, .inl (bv_put1 lv (fun w => nI (bv_cd ks (ks w) 16)) k))), (ak, .inl (cI, 16, .inl ks))] → va_S A s.heap H locs → ∀ (ls : Array Slot), lv_has ls 2 [(1, .int (nI k)), (0, .ref xm)] → W p l e (headSpec wsX1_setLevelsByKeys ({ frames := 3, cells := 0, slots := 0, locals := 66 })).room s m ([.ref xm] : List Value).toArray below meth c H locs 0 0 (MQ below (va_Qv (fun _ : Unit => True) (fun (_ : Unit) (T9 : State) => va_P G vwCl [(xm, .inr (1, [.ref al, .ref ak])), (al, .inl (cI, 16, .inl (bv_byk lv ks))), (ak, .inl (cI, 16, .inl ks))] T9.heap) A) ([.ref xm] : List Value).toArray s 0 0 A) (F0 m 2 ls []) := by
    intro fu9
    induction fu9 with
    | zero => intro k hfu; exact absurd hfu (Nat.not_lt_zero _)
    | succ fu9 ih =>
      intro k hfu hk H locs hP hD hS ls hl
      refine lv_iload_n (pc := 2) hx hb dX1_setLevelsByKeys_2 rfl (lv_at hl 0 rfl) ?_
      refine lv_aload_n (pc := 3) hx hb dX1_setLevelsByKeys_3 rfl (lv_at hl 1 rfl) ?_
      refine va_get (pc := 4) (D := G) (ci := 1) (v := .ref al) (C := RX1) (T := TX1) (N := 2) hx hb hts hw1 hown hK hP 0 rfl rfl 0 (by decide) hw0 (fun _ h9 => h9) rfl dX1_setLevelsByKeys_4 ?_
      refine va_alen (pc := 7) (v := (nI 16)) hx hb hK hP 1 0 rfl rfl rfl dX1_setLevelsByKeys_7 ?_
      refine lv_icmp_ge (pc := 8) (tgt := 38) hx hb dX1_setLevelsByKeys_8 (by decide) (fun c8_1 => ?_) (fun c8_1 => ?_)
      · have hkn : 16 = k := by
          by_cases h : k < 16
          · exact absurd c8_1 (nI_ge h (by omega))
          · omega
        subst hkn
        have hP9 : va_P G vwCl [(xm, .inr (1, [.ref al, .ref ak])), (al, .inl (cI, 16, .inl (bv_byk lv ks))), (ak, .inl (cI, 16, .inl ks))] H := hP
        exact W.vret (pc := 38) hx hb hr (fun T8 hT8 hW8 => ⟨⟨(), rfl, trivial, bv_hP hT8 hP9⟩, hS.F hT8⟩) hS.2.2 dX1_setLevelsByKeys_38
      · have hkn : k < 16 := by
          by_cases h : k < 16
          · exact h
          · exact absurd (nI_le (by omega) (by omega)) c8_1
        refine lv_aload_n (pc := 11) hx hb dX1_setLevelsByKeys_11 rfl (lv_at hl 1 rfl) ?_
        refine va_get (pc := 12) (D := G) (ci := 1) (v := .ref al) (C := RX1) (T := TX1) (N := 2) hx hb hts hw1 hown hK hP 0 rfl rfl 0 (by decide) hw0 (fun _ h9 => h9) rfl dX1_setLevelsByKeys_12 ?_
        refine lv_iload_n (pc := 15) hx hb dX1_setLevelsByKeys_15 rfl (lv_at hl 0 rfl) ?_
        refine lv_aload_n (pc := 16) hx hb dX1_setLevelsByKeys_16 rfl (lv_at hl 1 rfl) ?_
        refine va_get (pc := 17) (D := G) (ci := 1) (v := .ref ak) (C := RX1) (T := TX1) (N := 2) hx hb hts hw1 hown hK hP 0 rfl rfl 1 (by decide) hw2 (fun _ h9 => h9) rfl dX1_setLevelsByKeys_17 ?_
        refine lv_aload_n (pc := 20) hx hb dX1_setLevelsByKeys_20 rfl (lv_at hl 1 rfl) ?_
        refine va_get (pc := 21) (D := G) (ci := 1) (v := .ref ak) (C := RX1) (T := TX1) (N := 2) hx hb hts hw1 hown hK hP 0 rfl rfl 1 (by decide) hw2 (fun _ h9 => h9) rfl dX1_setLevelsByKeys_21 ?_
        refine lv_iload_n (pc := 24) hx hb dX1_setLevelsByKeys_24 rfl (lv_at hl 0 rfl) ?_
        have hPc := hP.sub (ws' := [(ak, .inl (cI, 16, .inl ks))]) [2] rfl
        refine bv_cSi (pc := 25) (E' := (ks k)) (va_runSN (As := [.ref ak, .int (nI k)]) (rest := [.ref ak, .int (nI k), .ref al]) ⟨hx, hb, hml, hown, hts⟩ (m_X3_at l G cI ak 16 ks (nI k) (by decide)) ⟨va_cnB 2 hts gX1_setLevelsByKeys_X3_at_n18 rfl rfl rfl hw5 hw4 (by decide +kernel) ⟨Nat.le_of_ble_eq_true rfl, Nat.le_of_ble_eq_true rfl⟩, hw3, trivial⟩ (bv_pS hE hPc) rfl rfl hl.1 rfl (lv_room (Nat.le_of_ble_eq_true rfl)) dX1_setLevelsByKeys_25 ⟨Nat.le_of_ble_eq_true rfl, Nat.le_of_ble_eq_true rfl⟩) (bv_at_nI (by omega) (by decide)) ?_
        have hPc := hP.sub (ws' := [(ak, .inl (cI, 16, .inl ks))]) [2] rfl
        refine bv_cSi (pc := 28) (E' := (nI (bv_cd ks (ks k) 16))) (va_runS (As := [.ref ak, .int (ks k)]) (rest := [.int (nI k), .ref al]) ⟨hx, hb, hml, hown, hts⟩ (m_X1_countDifferent l G cI ak 16 ks (ks k) (by decide)) (va_cwS 2 hts gX1_setLevelsByKeys_X1_countDifferent rfl rfl rfl (by decide +kernel) ⟨Nat.le_of_ble_eq_true rfl, Nat.le_of_ble_eq_true rfl⟩) (bv_pS hE hPc) rfl rfl hl.1 rfl (lv_room (Nat.le_of_ble_eq_true rfl)) dX1_setLevelsByKeys_28 ⟨Nat.le_of_ble_eq_true rfl, Nat.le_of_ble_eq_true rfl⟩) rfl ?_
        refine va_iast (pc := 31) hx hb hK hP hD hS 1 0 rfl rfl (vp_in_nI (by omega) (by decide)) dX1_setLevelsByKeys_31 (fun H locs hP hD hS => ?_)
        have hP : va_P G vwCl [(xm, .inr (1, [.ref al, .ref ak])), (al, .inl (cI, 16, .inl (upd (bv_put1 lv (fun w => nI (bv_cd ks (ks w) 16)) k) (nI k).toNatClampNeg (nI (bv_cd ks (ks k) 16))))), (ak, .inl (cI, 16, .inl ks))] H := hP
        have hD : va_D A [(xm, .inr (1, [.ref al, .ref ak])), (al, .inl (cI, 16, .inl (upd (bv_put1 lv (fun w => nI (bv_cd ks (ks w) 16)) k) (nI k).toNatClampNeg (nI (bv_cd ks (ks k) 16))))), (ak, .inl (cI, 16, .inl ks))] := hD
        rw [show (upd (bv_put1 lv (fun w => nI (bv_cd ks (ks w) 16)) k) (nI k).toNatClampNeg (nI (bv_cd ks (ks k) 16))) = (bv_put1 lv (fun w => nI (bv_cd ks (ks w) 16)) (k + 1)) from by rw [nI_clamp (by omega)]; exact bv_put1_s rfl] at hP hD
        refine lv_iinc (pc := 32) (v := (nI (k + 1))) (lv' := [(1, .int (nI (k + 1))), (0, .ref xm)]) hx hb dX1_setLevelsByKeys_32 hl (k := 0) rfl (nI_1 k) (by decide) rfl (fun ls hl => ?_)
        refine lv_goto (pc := 35) (tgt := 2) hx hb dX1_setLevelsByKeys_35 (by decide) ?_
        exact ih (k + 1) (by omega) (by omega) H _ hP hD hS ls (lv_sub hl [0, 1] rfl)
  rw [← bv_put1_0 (f := lv) (g := fun w => nI (bv_cd ks (ks w) 16))] at hP hD
  exact loop_2 (16 - 0 + 1) 0 (Nat.lt_succ_self _) (Nat.zero_le _) s.heap _ hP hD hS ls (lv_sub hl [0, 1] rfl)
set_option maxHeartbeats 4000000 in
set_option maxRecDepth 100000 in
theorem m_X1_takeStrictly (l : Launch) (G : va_G) (cI : ClassId) (sz : Nat) (xm al ak : Nat) (lv ks : Nat → Int32) (S : Int32) : Met l yX1_takeStrictly wsX1_takeStrictly ({ frames := 4, cells := 0, slots := 0, locals := 87 }) (bv_P [.ref xm, .int S] G cI (fun H => H.size = sz ∧ va_P G vwCl [(xm, .inr (1, [.ref al, .ref ak])), (al, .inl (cI, 16, .inl lv)), (ak, .inl (cI, 16, .inl ks))] H ∧ va_D (fun _ => True) [(xm, .inr (1, [.ref al, .ref ak])), (al, .inl (cI, 16, .inl lv)), (ak, .inl (cI, 16, .inl ks))])) (va_Qv (fun _ : Unit => True) (fun (_ : Unit) (T9 : State) => va_P G vwCl [(xm, .inr (1, [.ref al, .ref ak])), (al, .inl (cI, 16, .inl (bv_strict lv ks S))), (ak, .inl (cI, 16, .inl (bv_keys lv ks S)))] T9.heap) (va_A [(xm, .inr (1, [.ref al, .ref ak])), (al, .inl (cI, 16, .inl lv)), (ak, .inl (cI, 16, .inl ks))] sz)) 0 0 (va_A [(xm, .inr (1, [.ref al, .ref ak])), (al, .inl (cI, 16, .inl lv)), (ak, .inl (cI, 16, .inl ks))] sz) := by
  refine Met.ofW (cc := cX1_takeStrictly) (maxL := 4) (ret := none) (by decide) rfl ?_
  intro p e s m args below meth c s₁ B hml hv
  obtain ⟨rfl, ⟨hsz, hP, hD0⟩, hE⟩ := hv
  have hx := B.exec
  have hb := B.bytes
  have hr := B.returns
  have hts := atoms_spec (ws := wsX1_takeStrictly) B.pre
  have hown : s.vm.findClass RX1 = some m.cls := findClass_of_methodNamed B.named
  have hlocks := B.notSynchronized
  have hK := hE.1
  have hw0 := hts (.fieldLink RX1 9 "BeliefReviser$Mind" "levels" "[I") (List.mem_of_getElem? (i := 1) rfl)
  have hw1 : ∀ w ∈ u_ws RX1 TX1 2, w ∈ wsX1_takeStrictly := by decide +kernel
  have hw2 := hts (.fieldLink RX1 15 "BeliefReviser$Mind" "keys" "[I") (List.mem_of_getElem? (i := 2) rfl)
  have hw3 := hts (.static yX3_has) (List.mem_of_getElem? (i := 12) rfl)
  have hw4 := hts (.initialized RX3) (List.mem_of_getElem? (i := 13) rfl)
  have hw5 : va_Nw (.methodLinkNest RX1 27 yX3_has RX3) s := hE.2 (RX1, 27, yX3_has) (List.mem_of_getElem? (i := 7) rfl)
  subst hsz
  have hD := hD0.self (sz := s.heap.size)
  generalize hAe : va_A [(xm, .inr (1, [.ref al, .ref ak])), (al, .inl (cI, 16, .inl lv)), (ak, .inl (cI, 16, .inl ks))] s.heap.size = A at hD ⊢
  have hA : ∀ q : Nat, s.heap.size ≤ q → A q := fun q h => by rw [← hAe]; exact Or.inr h
  have hS : va_S A s.heap s.heap [] := va_S.rf
  have hP : va_P G vwCl [(xm, .inr (1, [.ref al, .ref ak])), (al, .inl (cI, 16, .inl lv)), (ak, .inl (cI, 16, .inl ks))] s.heap := hP
  have hl := lv_entry ([.ref xm, .int S]) (n := 4) (Nat.le_of_ble_eq_true rfl)
  rw [lg_entry_eq]
  generalize (lg_sl ([.ref xm, .int S]) ++ List.replicate (4 - (lg_sl ([.ref xm, .int S])).length) Slot.unset).toArray = ls at hl ⊢
  have hl : lv_has ls 4 [(0, .ref xm), (1, .int S)] := hl
  refine lv_aload_n (pc := 0) hx hb dX1_takeStrictly_0 rfl (lv_at hl 0 rfl) ?_
  have hPc := hP.sub (ws' := [(xm, .inr (1, [.ref al, .ref ak])), (al, .inl (cI, 16, .inl lv)), (ak, .inl (cI, 16, .inl ks))]) [0, 1, 2] rfl
  refine bv_cSi (pc := 1) (E' := (bv_gl lv 16)) (va_runV (As := []) (rest := []) ⟨hx, hb, hml, hown, hts⟩ (m_X1_greatestLevel l G cI xm al ak lv ks ) (cwV 0 hts gX1_takeStrictly_X1_greatestLevel rfl rfl rfl (by decide +kernel) ⟨Nat.le_of_ble_eq_true rfl, Nat.le_of_ble_eq_true rfl⟩) (bv_pV hE hPc (va_recv hK hP (ci := 1) (q0 := 0) rfl rfl)) rfl rfl hl.1 rfl (lv_room (Nat.le_of_ble_eq_true rfl)) dX1_takeStrictly_1 ⟨Nat.le_of_ble_eq_true rfl, Nat.le_of_ble_eq_true rfl⟩) rfl ?_
  refine lv_iconst (pc := 4) (v := 1) hx hb dX1_takeStrictly_4 (by decide) ?_
  refine lv_iadd (pc := 5) hx hb dX1_takeStrictly_5 ?_
  refine lv_istore_n (pc := 6) (lv' := [(2, .int ((bv_gl lv 16) + 1)), (0, .ref xm), (1, .int S)]) hx hb dX1_takeStrictly_6 rfl hl (by decide) rfl (fun ls hl => ?_)
  refine lv_iconst (pc := 7) (v := 0) hx hb dX1_takeStrictly_7 (by decide) ?_
  refine lv_istore_n (pc := 8) (lv' := [(3, .int 0), (2, .int ((bv_gl lv 16) + 1)), (0, .ref xm), (1, .int S)]) hx hb dX1_takeStrictly_8 rfl hl (by decide) rfl (fun ls hl => ?_)
  have loop_9 : ∀ (fu9 : Nat) (k : Nat), 16 - k < fu9 → (k ≤ 16) → ∀ (H : Heap) (locs : List Loc), va_P G vwCl [(xm, .inr (1, [.ref al, .ref ak])), (al, .inl (cI, 16, .inl lv)), (ak, .inl (cI, 16, .inl (bv_put1 ks (bv_key lv S) k)))] H → va_D A [(xm, .inr (1, [.ref al, .ref ak])), (al, .inl (cI, 16, .inl lv)), (ak, .inl (cI, 16, .inl (bv_put1 ks (bv_key lv S) k)))] → va_S A s.heap H locs → ∀ (ls : Array Slot), lv_has ls 4 [(3, .int (nI k)), (2, .int ((bv_gl lv 16) + 1)), (0, .ref xm), (1, .int S)] → W p l e (headSpec wsX1_takeStrictly ({ frames := 4, cells := 0, slots := 0, locals := 87 })).room s m ([.ref xm, .int S] : List Value).toArray below meth c H locs 0 0 (MQ below (va_Qv (fun _ : Unit => True) (fun (_ : Unit) (T9 : State) => va_P G vwCl [(xm, .inr (1, [.ref al, .ref ak])), (al, .inl (cI, 16, .inl (bv_strict lv ks S))), (ak, .inl (cI, 16, .inl (bv_keys lv ks S)))] T9.heap) A) ([.ref xm, .int S] : List Value).toArray s 0 0 A) (F0 m 9 ls []) := by
    intro fu9
    induction fu9 with
    | zero => intro k hfu; exact absurd hfu (Nat.not_lt_zero _)
    | succ fu9 ih =>
      intro k hfu hk H locs hP hD hS ls hl
      refine lv_iload_n (pc := 9) hx hb dX1_takeStrictly_9 rfl (lv_at hl 0 rfl) ?_
      refine lv_aload_n (pc := 10) hx hb dX1_takeStrictly_10 rfl (lv_at hl 2 rfl) ?_
      refine va_get (pc := 11) (D := G) (ci := 1) (v := .ref al) (C := RX1) (T := TX1) (N := 2) hx hb hts hw1 hown hK hP 0 rfl rfl 0 (by decide) hw0 (fun _ h9 => h9) rfl dX1_takeStrictly_11 ?_
      refine va_alen (pc := 14) (v := (nI 16)) hx hb hK hP 1 0 rfl rfl rfl dX1_takeStrictly_14 ?_
      refine lv_icmp_ge (pc := 15) (tgt := 64) hx hb dX1_takeStrictly_15 (by decide) (fun c15_3 => ?_) (fun c15_3 => ?_)
      · have hkn : 16 = k := by
          by_cases h : k < 16
          · exact absurd c15_3 (nI_ge h (by omega))
          · omega
        subst hkn
        refine lv_aload_n (pc := 64) hx hb dX1_takeStrictly_64 rfl (lv_at hl 2 rfl) ?_
        have hPc := hP.sub (ws' := [(xm, .inr (1, [.ref al, .ref ak])), (al, .inl (cI, 16, .inl lv)), (ak, .inl (cI, 16, .inl (bv_put1 ks (bv_key lv S) 16)))]) [0, 1, 2] rfl
        have hDc := hD.sub (ws' := [(xm, .inr (1, [.ref al, .ref ak])), (al, .inl (cI, 16, .inl lv)), (ak, .inl (cI, 16, .inl (bv_put1 ks (bv_key lv S) 16)))]) [0, 1, 2] (by decide) rfl
        have hFc := va_free (wc := [(xm, .inr (1, [.ref al, .ref ak])), (al, .inl (cI, 16, .inl lv)), (ak, .inl (cI, 16, .inl (bv_put1 ks (bv_key lv S) 16)))]) hD hS hA [0, 1, 2] rfl
        refine va_callv (pc := 65) (va_runV (As := []) (rest := []) ⟨hx, hb, hml, hown, hts⟩ (m_X1_setLevelsByKeys l G cI H.size xm al ak lv (bv_put1 ks (bv_key lv S) 16) ) (cwV 0 hts gX1_takeStrictly_X1_setLevelsByKeys rfl rfl rfl (by decide +kernel) ⟨Nat.le_of_ble_eq_true rfl, Nat.le_of_ble_eq_true rfl⟩) (bv_pV hE ⟨rfl, hPc, hDc.weaken (fun _ _ _ _ => trivial)⟩ (va_recv hK hP (ci := 1) (q0 := 0) rfl rfl)) rfl rfl hl.1 rfl (lv_room (Nat.le_of_ble_eq_true rfl)) dX1_takeStrictly_65 ⟨Nat.le_of_ble_eq_true rfl, Nat.le_of_ble_eq_true rfl⟩) hS (fun q _ h => hFc q h) hFc (fun u8 t8 H1 locs ht8 hvm8 e_5 hB8 hz1 hk1 hS => ?_)
        have hP1 : va_P G vwCl [(xm, .inr (1, [.ref al, .ref ak])), (al, .inl (cI, 16, .inl (bv_byk lv (bv_put1 ks (bv_key lv S) 16)))), (ak, .inl (cI, 16, .inl (bv_put1 ks (bv_key lv S) 16)))] H1 := by rw [← ht8]; exact hB8
        obtain ⟨hP, hD⟩ := va_join (wr := []) (w1 := [(xm, .inr (1, [.ref al, .ref ak])), (al, .inl (cI, 16, .inl (bv_byk lv (bv_put1 ks (bv_key lv S) 16)))), (ak, .inl (cI, 16, .inl (bv_put1 ks (bv_key lv S) 16)))]) hP hD [0, 1, 2] [] rfl rfl (by decide) (by decide) hk1 hFc hP1 (bv_Dm (w0 := [(xm, .inr (1, [.ref al, .ref ak])), (al, .inl (cI, 16, .inl lv)), (ak, .inl (cI, 16, .inl (bv_put1 ks (bv_key lv S) 16)))]) [xm, al, ak] rfl rfl hDc.self)
        have hP : va_P G vwCl [(xm, .inr (1, [.ref al, .ref ak])), (al, .inl (cI, 16, .inl (bv_byk lv (bv_put1 ks (bv_key lv S) 16)))), (ak, .inl (cI, 16, .inl (bv_put1 ks (bv_key lv S) 16)))] H1 := hP.sub (ws' := [(xm, .inr (1, [.ref al, .ref ak])), (al, .inl (cI, 16, .inl (bv_byk lv (bv_put1 ks (bv_key lv S) 16)))), (ak, .inl (cI, 16, .inl (bv_put1 ks (bv_key lv S) 16)))]) [0, 1, 2] rfl
        have hD : va_D A [(xm, .inr (1, [.ref al, .ref ak])), (al, .inl (cI, 16, .inl (bv_byk lv (bv_put1 ks (bv_key lv S) 16)))), (ak, .inl (cI, 16, .inl (bv_put1 ks (bv_key lv S) 16)))] := hD.sub (ws' := [(xm, .inr (1, [.ref al, .ref ak])), (al, .inl (cI, 16, .inl (bv_byk lv (bv_put1 ks (bv_key lv S) 16)))), (ak, .inl (cI, 16, .inl (bv_put1 ks (bv_key lv S) 16)))]) [0, 1, 2] (by decide) rfl
        generalize H1 = H at hP hS ⊢
        have hP9 : va_P G vwCl [(xm, .inr (1, [.ref al, .ref ak])), (al, .inl (cI, 16, .inl (bv_strict lv ks S))), (ak, .inl (cI, 16, .inl (bv_keys lv ks S)))] H := hP
        exact W.vret (pc := 68) hx hb hr (fun T8 hT8 hW8 => ⟨⟨(), rfl, trivial, bv_hP hT8 hP9⟩, hS.F hT8⟩) hS.2.2 dX1_takeStrictly_68
      · have hkn : k < 16 := by
          by_cases h : k < 16
          · exact h
          · exact absurd (nI_le (by omega) (by omega)) c15_3
        refine lv_iload_n (pc := 18) hx hb dX1_takeStrictly_18 rfl (lv_at hl 0 rfl) ?_
        refine lv_aload_n (pc := 19) hx hb dX1_takeStrictly_19 rfl (lv_at hl 2 rfl) ?_
        refine va_get (pc := 20) (D := G) (ci := 1) (v := .ref ak) (C := RX1) (T := TX1) (N := 2) hx hb hts hw1 hown hK hP 0 rfl rfl 1 (by decide) hw2 (fun _ h9 => h9) rfl dX1_takeStrictly_20 ?_
        refine va_alen (pc := 23) (v := (nI 16)) hx hb hK hP 2 0 rfl rfl rfl dX1_takeStrictly_23 ?_
        refine lv_icmp_ge (pc := 24) (tgt := 64) hx hb dX1_takeStrictly_24 (by decide) (fun c24_6 => ?_) (fun c24_6 => ?_)
        · exact absurd c24_6 (nI_ge hkn (by decide))
        · refine lv_aload_n (pc := 27) hx hb dX1_takeStrictly_27 rfl (lv_at hl 2 rfl) ?_
          refine va_get (pc := 28) (D := G) (ci := 1) (v := .ref ak) (C := RX1) (T := TX1) (N := 2) hx hb hts hw1 hown hK hP 0 rfl rfl 1 (by decide) hw2 (fun _ h9 => h9) rfl dX1_takeStrictly_28 ?_
          refine lv_iload_n (pc := 31) hx hb dX1_takeStrictly_31 rfl (lv_at hl 0 rfl) ?_
          refine lv_iload_n (pc := 32) hx hb dX1_takeStrictly_32 rfl (lv_at hl 3 rfl) ?_
          refine lv_iload_n (pc := 33) hx hb dX1_takeStrictly_33 rfl (lv_at hl 0 rfl) ?_
          have hPc := hP.sub (ws' := []) [] rfl
          refine bv_cSi (pc := 34) (E' := (bv_b (bv_has S (nI k)))) (va_runSN (As := [.int S, .int (nI k)]) (rest := [.int (nI k), .ref ak]) ⟨hx, hb, hml, hown, hts⟩ (m_X3_has l G cI S (nI k) ) ⟨va_cnB 2 hts gX1_takeStrictly_X3_has_n27 rfl rfl rfl hw5 hw4 (by decide +kernel) ⟨Nat.le_of_ble_eq_true rfl, Nat.le_of_ble_eq_true rfl⟩, hw3, trivial⟩ (bv_pS hE hPc) rfl rfl hl.1 rfl (lv_room (Nat.le_of_ble_eq_true rfl)) dX1_takeStrictly_34 ⟨Nat.le_of_ble_eq_true rfl, Nat.le_of_ble_eq_true rfl⟩) rfl ?_
          refine lv_if_eq (pc := 37) (tgt := 49) hx hb dX1_takeStrictly_37 (by decide) (fun c37_9 => ?_) (fun c37_9 => ?_)
          · have h2 := bv_b0.mp c37_9
            refine lv_aload_n (pc := 49) hx hb dX1_takeStrictly_49 rfl (lv_at hl 2 rfl) ?_
            refine va_get (pc := 50) (D := G) (ci := 1) (v := .ref al) (C := RX1) (T := TX1) (N := 2) hx hb hts hw1 hown hK hP 0 rfl rfl 0 (by decide) hw0 (fun _ h9 => h9) rfl dX1_takeStrictly_50 ?_
            refine lv_iload_n (pc := 53) hx hb dX1_takeStrictly_53 rfl (lv_at hl 0 rfl) ?_
            refine bv_ial (pc := 54) hx hb hK hP 1 0 rfl rfl (by omega) (by omega) dX1_takeStrictly_54 ?_
            refine lv_iload_n (pc := 55) hx hb dX1_takeStrictly_55 rfl (lv_at hl 1 rfl) ?_
            refine lv_iadd (pc := 56) hx hb dX1_takeStrictly_56 ?_
            refine va_iast (pc := 57) hx hb hK hP hD hS 2 0 rfl rfl (vp_in_nI (by omega) (by decide)) dX1_takeStrictly_57 (fun H locs hP hD hS => ?_)
            have hP : va_P G vwCl [(xm, .inr (1, [.ref al, .ref ak])), (al, .inl (cI, 16, .inl lv)), (ak, .inl (cI, 16, .inl (upd (bv_put1 ks (bv_key lv S) k) (nI k).toNatClampNeg ((lv k) + ((bv_gl lv 16) + 1)))))] H := hP
            have hD : va_D A [(xm, .inr (1, [.ref al, .ref ak])), (al, .inl (cI, 16, .inl lv)), (ak, .inl (cI, 16, .inl (upd (bv_put1 ks (bv_key lv S) k) (nI k).toNatClampNeg ((lv k) + ((bv_gl lv 16) + 1)))))] := hD
            rw [show (upd (bv_put1 ks (bv_key lv S) k) (nI k).toNatClampNeg ((lv k) + ((bv_gl lv 16) + 1))) = (bv_put1 ks (bv_key lv S) (k + 1)) from by rw [nI_clamp (by omega)]; exact bv_put1_s (by unfold bv_key; rw [h2]; rfl)] at hP hD
            refine lv_iinc (pc := 58) (v := (nI (k + 1))) (lv' := [(3, .int (nI (k + 1))), (2, .int ((bv_gl lv 16) + 1)), (0, .ref xm), (1, .int S)]) hx hb dX1_takeStrictly_58 hl (k := 0) rfl (nI_1 k) (by decide) rfl (fun ls hl => ?_)
            refine lv_goto (pc := 61) (tgt := 9) hx hb dX1_takeStrictly_61 (by decide) ?_
            exact ih (k + 1) (by omega) (by omega) H _ hP hD hS ls (lv_sub hl [0, 1, 2, 3] rfl)
          · have h2 := bv_b1.mp c37_9
            refine lv_aload_n (pc := 40) hx hb dX1_takeStrictly_40 rfl (lv_at hl 2 rfl) ?_
            refine va_get (pc := 41) (D := G) (ci := 1) (v := .ref al) (C := RX1) (T := TX1) (N := 2) hx hb hts hw1 hown hK hP 0 rfl rfl 0 (by decide) hw0 (fun _ h9 => h9) rfl dX1_takeStrictly_41 ?_
            refine lv_iload_n (pc := 44) hx hb dX1_takeStrictly_44 rfl (lv_at hl 0 rfl) ?_
            refine bv_ial (pc := 45) hx hb hK hP 1 0 rfl rfl (by omega) (by omega) dX1_takeStrictly_45 ?_
            refine lv_goto (pc := 46) (tgt := 57) hx hb dX1_takeStrictly_46 (by decide) ?_
            refine va_iast (pc := 57) hx hb hK hP hD hS 2 0 rfl rfl (vp_in_nI (by omega) (by decide)) dX1_takeStrictly_57 (fun H locs hP hD hS => ?_)
            have hP : va_P G vwCl [(xm, .inr (1, [.ref al, .ref ak])), (al, .inl (cI, 16, .inl lv)), (ak, .inl (cI, 16, .inl (upd (bv_put1 ks (bv_key lv S) k) (nI k).toNatClampNeg (lv k))))] H := hP
            have hD : va_D A [(xm, .inr (1, [.ref al, .ref ak])), (al, .inl (cI, 16, .inl lv)), (ak, .inl (cI, 16, .inl (upd (bv_put1 ks (bv_key lv S) k) (nI k).toNatClampNeg (lv k))))] := hD
            rw [show (upd (bv_put1 ks (bv_key lv S) k) (nI k).toNatClampNeg (lv k)) = (bv_put1 ks (bv_key lv S) (k + 1)) from by rw [nI_clamp (by omega)]; exact bv_put1_s (by unfold bv_key; rw [h2]; rfl)] at hP hD
            refine lv_iinc (pc := 58) (v := (nI (k + 1))) (lv' := [(3, .int (nI (k + 1))), (2, .int ((bv_gl lv 16) + 1)), (0, .ref xm), (1, .int S)]) hx hb dX1_takeStrictly_58 hl (k := 0) rfl (nI_1 k) (by decide) rfl (fun ls hl => ?_)
            refine lv_goto (pc := 61) (tgt := 9) hx hb dX1_takeStrictly_61 (by decide) ?_
            exact ih (k + 1) (by omega) (by omega) H _ hP hD hS ls (lv_sub hl [0, 1, 2, 3] rfl)
  rw [← bv_put1_0 (f := ks) (g := bv_key lv S)] at hP hD
  exact loop_9 (16 - 0 + 1) 0 (Nat.lt_succ_self _) (Nat.zero_le _) s.heap _ hP hD hS ls (lv_sub hl [0, 1, 2, 3] rfl)
set_option maxHeartbeats 4000000 in
set_option maxRecDepth 100000 in
theorem m_X1_loadFrom (l : Launch) (G : va_G) (cI : ClassId) (sz : Nat) (xm al ak : Nat) (lv ks : Nat → Int32) (xb as ar am bn : Nat) (bs br mt : Nat → Int32) (hn : bn ≤ 10) : Met l yX1_loadFrom wsX1_loadFrom ({ frames := 3, cells := 0, slots := 0, locals := 65 }) (bv_P [.ref xm, .ref xb] G cI (fun H => H.size = sz ∧ va_P G vwCl [(xm, .inr (1, [.ref al, .ref ak])), (al, .inl (cI, 16, .inl lv)), (ak, .inl (cI, 16, .inl ks)), (xb, .inr (0, [.ref as, .ref ar, .ref am, .int (nI bn)])), (as, .inl (cI, 10, .inl bs)), (ar, .inl (cI, 10, .inl br)), (am, .inl (cI, 1024, .inl mt))] H ∧ va_D (fun _ => True) [(xm, .inr (1, [.ref al, .ref ak])), (al, .inl (cI, 16, .inl lv)), (ak, .inl (cI, 16, .inl ks)), (xb, .inr (0, [.ref as, .ref ar, .ref am, .int (nI bn)])), (as, .inl (cI, 10, .inl bs)), (ar, .inl (cI, 10, .inl br)), (am, .inl (cI, 1024, .inl mt))])) (va_Qv (fun _ : Unit => True) (fun (_ : Unit) (T9 : State) => va_P G vwCl [(xm, .inr (1, [.ref al, .ref ak])), (al, .inl (cI, 16, .inl (bv_loaded bs br bn lv))), (ak, .inl (cI, 16, .inl ks)), (xb, .inr (0, [.ref as, .ref ar, .ref am, .int (nI bn)])), (as, .inl (cI, 10, .inl bs)), (ar, .inl (cI, 10, .inl br)), (am, .inl (cI, 1024, .inl mt))] T9.heap) (va_A [(xm, .inr (1, [.ref al, .ref ak])), (al, .inl (cI, 16, .inl lv)), (ak, .inl (cI, 16, .inl ks)), (xb, .inr (0, [.ref as, .ref ar, .ref am, .int (nI bn)])), (as, .inl (cI, 10, .inl bs)), (ar, .inl (cI, 10, .inl br)), (am, .inl (cI, 1024, .inl mt))] sz)) 0 0 (va_A [(xm, .inr (1, [.ref al, .ref ak])), (al, .inl (cI, 16, .inl lv)), (ak, .inl (cI, 16, .inl ks)), (xb, .inr (0, [.ref as, .ref ar, .ref am, .int (nI bn)])), (as, .inl (cI, 10, .inl bs)), (ar, .inl (cI, 10, .inl br)), (am, .inl (cI, 1024, .inl mt))] sz) := by
  refine Met.ofW (cc := cX1_loadFrom) (maxL := 3) (ret := none) (by decide) rfl ?_
  intro p e s m args below meth c s₁ B hml hv
  obtain ⟨rfl, ⟨hsz, hP, hD0⟩, hE⟩ := hv
  have hx := B.exec
  have hb := B.bytes
  have hr := B.returns
  have hts := atoms_spec (ws := wsX1_loadFrom) B.pre
  have hown : s.vm.findClass RX1 = some m.cls := findClass_of_methodNamed B.named
  have hlocks := B.notSynchronized
  have hK := hE.1
  have hw0 := hts (.fieldLink RX1 9 "BeliefReviser$Mind" "levels" "[I") (List.mem_of_getElem? (i := 1) rfl)
  have hw1 : ∀ w ∈ u_ws RX1 TX1 2, w ∈ wsX1_loadFrom := by decide +kernel
  have hw2 := hts (.constant RX1 22 65535) (List.mem_of_getElem? (i := 2) rfl)
  subst hsz
  have hD := hD0.self (sz := s.heap.size)
  generalize hAe : va_A [(xm, .inr (1, [.ref al, .ref ak])), (al, .inl (cI, 16, .inl lv)), (ak, .inl (cI, 16, .inl ks)), (xb, .inr (0, [.ref as, .ref ar, .ref am, .int (nI bn)])), (as, .inl (cI, 10, .inl bs)), (ar, .inl (cI, 10, .inl br)), (am, .inl (cI, 1024, .inl mt))] s.heap.size = A at hD ⊢
  have hA : ∀ q : Nat, s.heap.size ≤ q → A q := fun q h => by rw [← hAe]; exact Or.inr h
  have hS : va_S A s.heap s.heap [] := va_S.rf
  have hP : va_P G vwCl [(xm, .inr (1, [.ref al, .ref ak])), (al, .inl (cI, 16, .inl lv)), (ak, .inl (cI, 16, .inl ks)), (xb, .inr (0, [.ref as, .ref ar, .ref am, .int (nI bn)])), (as, .inl (cI, 10, .inl bs)), (ar, .inl (cI, 10, .inl br)), (am, .inl (cI, 1024, .inl mt))] s.heap := hP
  have hl := lv_entry ([.ref xm, .ref xb]) (n := 3) (Nat.le_of_ble_eq_true rfl)
  rw [lg_entry_eq]
  generalize (lg_sl ([.ref xm, .ref xb]) ++ List.replicate (3 - (lg_sl ([.ref xm, .ref xb])).length) Slot.unset).toArray = ls at hl ⊢
  have hl : lv_has ls 3 [(0, .ref xm), (1, .ref xb)] := hl
  refine lv_iconst (pc := 0) (v := 0) hx hb dX1_loadFrom_0 (by decide) ?_
  refine lv_istore_n (pc := 1) (lv' := [(2, .int 0), (0, .ref xm), (1, .ref xb)]) hx hb dX1_loadFrom_1 rfl hl (by decide) rfl (fun ls hl => ?_)
  have loop_2 : ∀ (fu9 : Nat) (k : Nat), 16 - k < fu9 → (k ≤ 16) → ∀ (H : Heap) (locs : List Loc), va_P G vwCl [(xm, .inr (1, [.ref al, .ref ak])), (al, .inl (cI, 16, .inl (bv_put1 lv (fun w => bv_gr bs br (nI w) bn) k))), (ak, .inl (cI, 16, .inl ks)), (xb, .inr (0, [.ref as, .ref ar, .ref am, .int (nI bn)])), (as, .inl (cI, 10, .inl bs)), (ar, .inl (cI, 10, .inl br)), (am, .inl (cI, 1024, .inl mt))] H → va_D A [(xm, .inr (1, [.ref al, .ref ak])), (al, .inl (cI, 16, .inl (bv_put1 lv (fun w => bv_gr bs br (nI w) bn) k))), (ak, .inl (cI, 16, .inl ks)), (xb, .inr (0, [.ref as, .ref ar, .ref am, .int (nI bn)])), (as, .inl (cI, 10, .inl bs)), (ar, .inl (cI, 10, .inl br)), (am, .inl (cI, 1024, .inl mt))] → va_S A s.heap H locs → ∀ (ls : Array Slot), lv_has ls 3 [(2, .int (nI k)), (0, .ref xm), (1, .ref xb)] → W p l e (headSpec wsX1_loadFrom ({ frames := 3, cells := 0, slots := 0, locals := 65 })).room s m ([.ref xm, .ref xb] : List Value).toArray below meth c H locs 0 0 (MQ below (va_Qv (fun _ : Unit => True) (fun (_ : Unit) (T9 : State) => va_P G vwCl [(xm, .inr (1, [.ref al, .ref ak])), (al, .inl (cI, 16, .inl (bv_loaded bs br bn lv))), (ak, .inl (cI, 16, .inl ks)), (xb, .inr (0, [.ref as, .ref ar, .ref am, .int (nI bn)])), (as, .inl (cI, 10, .inl bs)), (ar, .inl (cI, 10, .inl br)), (am, .inl (cI, 1024, .inl mt))] T9.heap) A) ([.ref xm, .ref xb] : List Value).toArray s 0 0 A) (F0 m 2 ls []) := by
    intro fu9
    induction fu9 with
    | zero => intro k hfu; exact absurd hfu (Nat.not_lt_zero _)
    | succ fu9 ih =>
      intro k hfu hk H locs hP hD hS ls hl
      refine lv_iload_n (pc := 2) hx hb dX1_loadFrom_2 rfl (lv_at hl 0 rfl) ?_
      refine lv_aload_n (pc := 3) hx hb dX1_loadFrom_3 rfl (lv_at hl 1 rfl) ?_
      refine va_get (pc := 4) (D := G) (ci := 1) (v := .ref al) (C := RX1) (T := TX1) (N := 2) hx hb hts hw1 hown hK hP 0 rfl rfl 0 (by decide) hw0 (fun _ h9 => h9) rfl dX1_loadFrom_4 ?_
      refine va_alen (pc := 7) (v := (nI 16)) hx hb hK hP 1 0 rfl rfl rfl dX1_loadFrom_7 ?_
      refine lv_icmp_ge (pc := 8) (tgt := 28) hx hb dX1_loadFrom_8 (by decide) (fun c8_1 => ?_) (fun c8_1 => ?_)
      · have hkn : 16 = k := by
          by_cases h : k < 16
          · exact absurd c8_1 (nI_ge h (by omega))
          · omega
        subst hkn
        refine lv_aload_n (pc := 28) hx hb dX1_loadFrom_28 rfl (lv_at hl 1 rfl) ?_
        refine lv_ldc (pc := 29) hx hb hown hw2 dX1_loadFrom_29 ?_
        refine lv_aload_n (pc := 31) hx hb dX1_loadFrom_31 rfl (lv_at hl 1 rfl) ?_
        refine lv_ldc (pc := 32) hx hb hown hw2 dX1_loadFrom_32 ?_
        have hPc := hP.sub (ws' := [(xm, .inr (1, [.ref al, .ref ak])), (al, .inl (cI, 16, .inl (bv_put1 lv (fun w => bv_gr bs br (nI w) bn) 16))), (ak, .inl (cI, 16, .inl ks))]) [0, 1, 2] rfl
        refine bv_cSi (pc := 34) (E' := (bv_ll (bv_put1 lv (fun w => bv_gr bs br (nI w) bn) 16) 65535 16)) (va_runV (As := [.int 65535]) (rest := [.int 65535, .ref xm]) ⟨hx, hb, hml, hown, hts⟩ (m_X1_leastLevel l G cI xm al ak (bv_put1 lv (fun w => bv_gr bs br (nI w) bn) 16) ks 65535 ) (cwV 1 hts gX1_loadFrom_X1_leastLevel rfl rfl rfl (by decide +kernel) ⟨Nat.le_of_ble_eq_true rfl, Nat.le_of_ble_eq_true rfl⟩) (bv_pV hE hPc (va_recv hK hP (ci := 1) (q0 := 0) rfl rfl)) rfl rfl hl.1 rfl (lv_room (Nat.le_of_ble_eq_true rfl)) dX1_loadFrom_34 ⟨Nat.le_of_ble_eq_true rfl, Nat.le_of_ble_eq_true rfl⟩) rfl ?_
        refine lv_ineg (pc := 37) hx hb dX1_loadFrom_37 ?_
        have hPc := hP.sub (ws' := [(xm, .inr (1, [.ref al, .ref ak])), (al, .inl (cI, 16, .inl (bv_put1 lv (fun w => bv_gr bs br (nI w) bn) 16))), (ak, .inl (cI, 16, .inl ks))]) [0, 1, 2] rfl
        have hDc := hD.sub (ws' := [(xm, .inr (1, [.ref al, .ref ak])), (al, .inl (cI, 16, .inl (bv_put1 lv (fun w => bv_gr bs br (nI w) bn) 16))), (ak, .inl (cI, 16, .inl ks))]) [0, 1, 2] (by decide) rfl
        have hFc := va_free (wc := [(xm, .inr (1, [.ref al, .ref ak])), (al, .inl (cI, 16, .inl (bv_put1 lv (fun w => bv_gr bs br (nI w) bn) 16))), (ak, .inl (cI, 16, .inl ks))]) hD hS hA [0, 1, 2] rfl
        refine va_callv (pc := 38) (va_runV (As := [.int 65535, .int (-(bv_ll (bv_put1 lv (fun w => bv_gr bs br (nI w) bn) 16) 65535 16))]) (rest := []) ⟨hx, hb, hml, hown, hts⟩ (m_X1_shift l G cI H.size xm al ak (bv_put1 lv (fun w => bv_gr bs br (nI w) bn) 16) ks 65535 (-(bv_ll (bv_put1 lv (fun w => bv_gr bs br (nI w) bn) 16) 65535 16)) ) (cwV 2 hts gX1_loadFrom_X1_shift rfl rfl rfl (by decide +kernel) ⟨Nat.le_of_ble_eq_true rfl, Nat.le_of_ble_eq_true rfl⟩) (bv_pV hE ⟨rfl, hPc, hDc.weaken (fun _ _ _ _ => trivial)⟩ (va_recv hK hP (ci := 1) (q0 := 0) rfl rfl)) rfl rfl hl.1 rfl (lv_room (Nat.le_of_ble_eq_true rfl)) dX1_loadFrom_38 ⟨Nat.le_of_ble_eq_true rfl, Nat.le_of_ble_eq_true rfl⟩) hS (fun q _ h => hFc q h) hFc (fun u8 t8 H1 locs ht8 hvm8 e_5 hB8 hz1 hk1 hS => ?_)
        have hP1 : va_P G vwCl [(xm, .inr (1, [.ref al, .ref ak])), (al, .inl (cI, 16, .inl (bv_sh (bv_put1 lv (fun w => bv_gr bs br (nI w) bn) 16) 65535 (-(bv_ll (bv_put1 lv (fun w => bv_gr bs br (nI w) bn) 16) 65535 16)) 16))), (ak, .inl (cI, 16, .inl ks))] H1 := by rw [← ht8]; exact hB8
        obtain ⟨hP, hD⟩ := va_join (wr := [(xb, .inr (0, [.ref as, .ref ar, .ref am, .int (nI bn)])), (as, .inl (cI, 10, .inl bs)), (ar, .inl (cI, 10, .inl br)), (am, .inl (cI, 1024, .inl mt))]) (w1 := [(xm, .inr (1, [.ref al, .ref ak])), (al, .inl (cI, 16, .inl (bv_sh (bv_put1 lv (fun w => bv_gr bs br (nI w) bn) 16) 65535 (-(bv_ll (bv_put1 lv (fun w => bv_gr bs br (nI w) bn) 16) 65535 16)) 16))), (ak, .inl (cI, 16, .inl ks))]) hP hD [0, 1, 2] [3, 4, 5, 6] rfl rfl (by decide) (by decide) hk1 hFc hP1 (bv_Dm (w0 := [(xm, .inr (1, [.ref al, .ref ak])), (al, .inl (cI, 16, .inl (bv_put1 lv (fun w => bv_gr bs br (nI w) bn) 16))), (ak, .inl (cI, 16, .inl ks))]) [xm, al, ak] rfl rfl hDc.self)
        have hP : va_P G vwCl [(xm, .inr (1, [.ref al, .ref ak])), (al, .inl (cI, 16, .inl (bv_sh (bv_put1 lv (fun w => bv_gr bs br (nI w) bn) 16) 65535 (-(bv_ll (bv_put1 lv (fun w => bv_gr bs br (nI w) bn) 16) 65535 16)) 16))), (ak, .inl (cI, 16, .inl ks)), (xb, .inr (0, [.ref as, .ref ar, .ref am, .int (nI bn)])), (as, .inl (cI, 10, .inl bs)), (ar, .inl (cI, 10, .inl br)), (am, .inl (cI, 1024, .inl mt))] H1 := hP.sub (ws' := [(xm, .inr (1, [.ref al, .ref ak])), (al, .inl (cI, 16, .inl (bv_sh (bv_put1 lv (fun w => bv_gr bs br (nI w) bn) 16) 65535 (-(bv_ll (bv_put1 lv (fun w => bv_gr bs br (nI w) bn) 16) 65535 16)) 16))), (ak, .inl (cI, 16, .inl ks)), (xb, .inr (0, [.ref as, .ref ar, .ref am, .int (nI bn)])), (as, .inl (cI, 10, .inl bs)), (ar, .inl (cI, 10, .inl br)), (am, .inl (cI, 1024, .inl mt))]) [4, 5, 6, 0, 1, 2, 3] rfl
        have hD : va_D A [(xm, .inr (1, [.ref al, .ref ak])), (al, .inl (cI, 16, .inl (bv_sh (bv_put1 lv (fun w => bv_gr bs br (nI w) bn) 16) 65535 (-(bv_ll (bv_put1 lv (fun w => bv_gr bs br (nI w) bn) 16) 65535 16)) 16))), (ak, .inl (cI, 16, .inl ks)), (xb, .inr (0, [.ref as, .ref ar, .ref am, .int (nI bn)])), (as, .inl (cI, 10, .inl bs)), (ar, .inl (cI, 10, .inl br)), (am, .inl (cI, 1024, .inl mt))] := hD.sub (ws' := [(xm, .inr (1, [.ref al, .ref ak])), (al, .inl (cI, 16, .inl (bv_sh (bv_put1 lv (fun w => bv_gr bs br (nI w) bn) 16) 65535 (-(bv_ll (bv_put1 lv (fun w => bv_gr bs br (nI w) bn) 16) 65535 16)) 16))), (ak, .inl (cI, 16, .inl ks)), (xb, .inr (0, [.ref as, .ref ar, .ref am, .int (nI bn)])), (as, .inl (cI, 10, .inl bs)), (ar, .inl (cI, 10, .inl br)), (am, .inl (cI, 1024, .inl mt))]) [4, 5, 6, 0, 1, 2, 3] (by decide) rfl
        generalize H1 = H at hP hS ⊢
        have hP9 : va_P G vwCl [(xm, .inr (1, [.ref al, .ref ak])), (al, .inl (cI, 16, .inl (bv_loaded bs br bn lv))), (ak, .inl (cI, 16, .inl ks)), (xb, .inr (0, [.ref as, .ref ar, .ref am, .int (nI bn)])), (as, .inl (cI, 10, .inl bs)), (ar, .inl (cI, 10, .inl br)), (am, .inl (cI, 1024, .inl mt))] H := hP
        exact W.vret (pc := 41) hx hb hr (fun T8 hT8 hW8 => ⟨⟨(), rfl, trivial, bv_hP hT8 hP9⟩, hS.F hT8⟩) hS.2.2 dX1_loadFrom_41
      · have hkn : k < 16 := by
          by_cases h : k < 16
          · exact h
          · exact absurd (nI_le (by omega) (by omega)) c8_1
        refine lv_aload_n (pc := 11) hx hb dX1_loadFrom_11 rfl (lv_at hl 1 rfl) ?_
        refine va_get (pc := 12) (D := G) (ci := 1) (v := .ref al) (C := RX1) (T := TX1) (N := 2) hx hb hts hw1 hown hK hP 0 rfl rfl 0 (by decide) hw0 (fun _ h9 => h9) rfl dX1_loadFrom_12 ?_
        refine lv_iload_n (pc := 15) hx hb dX1_loadFrom_15 rfl (lv_at hl 0 rfl) ?_
        refine lv_aload_n (pc := 16) hx hb dX1_loadFrom_16 rfl (lv_at hl 2 rfl) ?_
        refine lv_iload_n (pc := 17) hx hb dX1_loadFrom_17 rfl (lv_at hl 0 rfl) ?_
        have hPc := hP.sub (ws' := [(xb, .inr (0, [.ref as, .ref ar, .ref am, .int (nI bn)])), (as, .inl (cI, 10, .inl bs)), (ar, .inl (cI, 10, .inl br)), (am, .inl (cI, 1024, .inl mt))]) [3, 4, 5, 6] rfl
        refine bv_cSi (pc := 18) (E' := (bv_gr bs br (nI k) bn)) (va_runV (As := [.int (nI k)]) (rest := [.int (nI k), .ref al]) ⟨hx, hb, hml, hown, hts⟩ (m_X0_greatestRankFalseIn l G cI xb as ar am bn bs br mt (nI k) hn) (cwV 1 hts gX1_loadFrom_X0_greatestRankFalseIn rfl rfl rfl (by decide +kernel) ⟨Nat.le_of_ble_eq_true rfl, Nat.le_of_ble_eq_true rfl⟩) (bv_pV hE hPc (va_recv hK hP (ci := 0) (q0 := 3) rfl rfl)) rfl rfl hl.1 rfl (lv_room (Nat.le_of_ble_eq_true rfl)) dX1_loadFrom_18 ⟨Nat.le_of_ble_eq_true rfl, Nat.le_of_ble_eq_true rfl⟩) rfl ?_
        refine va_iast (pc := 21) hx hb hK hP hD hS 1 0 rfl rfl (vp_in_nI (by omega) (by decide)) dX1_loadFrom_21 (fun H locs hP hD hS => ?_)
        have hP : va_P G vwCl [(xm, .inr (1, [.ref al, .ref ak])), (al, .inl (cI, 16, .inl (upd (bv_put1 lv (fun w => bv_gr bs br (nI w) bn) k) (nI k).toNatClampNeg (bv_gr bs br (nI k) bn)))), (ak, .inl (cI, 16, .inl ks)), (xb, .inr (0, [.ref as, .ref ar, .ref am, .int (nI bn)])), (as, .inl (cI, 10, .inl bs)), (ar, .inl (cI, 10, .inl br)), (am, .inl (cI, 1024, .inl mt))] H := hP
        have hD : va_D A [(xm, .inr (1, [.ref al, .ref ak])), (al, .inl (cI, 16, .inl (upd (bv_put1 lv (fun w => bv_gr bs br (nI w) bn) k) (nI k).toNatClampNeg (bv_gr bs br (nI k) bn)))), (ak, .inl (cI, 16, .inl ks)), (xb, .inr (0, [.ref as, .ref ar, .ref am, .int (nI bn)])), (as, .inl (cI, 10, .inl bs)), (ar, .inl (cI, 10, .inl br)), (am, .inl (cI, 1024, .inl mt))] := hD
        rw [show (upd (bv_put1 lv (fun w => bv_gr bs br (nI w) bn) k) (nI k).toNatClampNeg (bv_gr bs br (nI k) bn)) = (bv_put1 lv (fun w => bv_gr bs br (nI w) bn) (k + 1)) from by rw [nI_clamp (by omega)]; exact bv_put1_s rfl] at hP hD
        refine lv_iinc (pc := 22) (v := (nI (k + 1))) (lv' := [(2, .int (nI (k + 1))), (0, .ref xm), (1, .ref xb)]) hx hb dX1_loadFrom_22 hl (k := 0) rfl (nI_1 k) (by decide) rfl (fun ls hl => ?_)
        refine lv_goto (pc := 25) (tgt := 2) hx hb dX1_loadFrom_25 (by decide) ?_
        exact ih (k + 1) (by omega) (by omega) H _ hP hD hS ls (lv_sub hl [0, 1, 2] rfl)
  rw [← bv_put1_0 (f := lv) (g := fun w => bv_gr bs br (nI w) bn)] at hP hD
  exact loop_2 (16 - 0 + 1) 0 (Nat.lt_succ_self _) (Nat.zero_le _) s.heap _ hP hD hS ls (lv_sub hl [0, 1, 2] rfl)
