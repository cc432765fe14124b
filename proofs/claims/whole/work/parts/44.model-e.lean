set_option maxHeartbeats 4000000 in
set_option maxRecDepth 100000 in
theorem m_X4_from (l : Launch) (G : va_G) (cI : ClassId) (y yp yb yr yl bn : Nat) (th h9 : Int32) (bs br : Nat → Int32) (r : Int32) (hn : bn ≤ 10) : Met l yX4_from wsX4_from ({ frames := 0, cells := 0, slots := 0, locals := 0 }) (bv_P [.ref y, .int r] G cI (fun H => va_P G vwCl [(y, .inr (4, [.int th, .int h9, .ref yp, .int (nI bn), .ref yb, .ref yr, .ref yl])), (yb, .inl (cI, 10, .inl bs)), (yr, .inl (cI, 10, .inl br))] H)) (vp_Si (fun r9 : Int32 => r9 = (nI (bv_rf br r bn)))) 0 0 (fun _ => False) := by
  refine Met.ofW (cc := cX4_from) (maxL := 4) (ret := (some .int)) (by decide) rfl ?_
  intro p e s m args below meth c s₁ B hml hv
  obtain ⟨rfl, hP, hE⟩ := hv
  have hx := B.exec
  have hb := B.bytes
  have hr := B.returns
  have hts := atoms_spec (ws := wsX4_from) B.pre
  have hown : s.vm.findClass RX4 = some m.cls := findClass_of_methodNamed B.named
  have hlocks := B.notSynchronized
  have hK := hE.1
  have hw0 := hts (.fieldLink RX4 26 "BeliefReviserModel" "size" "I") (List.mem_of_getElem? (i := 1) rfl)
  have hw1 : ∀ w ∈ u_ws RX4 TX4 7, w ∈ wsX4_from := by decide +kernel
  have hw2 := hts (.fieldLink RX4 16 "BeliefReviserModel" "ranks" "[I") (List.mem_of_getElem? (i := 2) rfl)
  have hP : va_P G vwCl [(y, .inr (4, [.int th, .int h9, .ref yp, .int (nI bn), .ref yb, .ref yr, .ref yl])), (yb, .inl (cI, 10, .inl bs)), (yr, .inl (cI, 10, .inl br))] s.heap := hP
  have hl := lv_entry ([.ref y, .int r]) (n := 4) (Nat.le_of_ble_eq_true rfl)
  rw [lg_entry_eq]
  generalize (lg_sl ([.ref y, .int r]) ++ List.replicate (4 - (lg_sl ([.ref y, .int r])).length) Slot.unset).toArray = ls at hl ⊢
  have hl : lv_has ls 4 [(0, .ref y), (1, .int r)] := hl
  refine lv_iconst (pc := 0) (v := 0) hx hb dX4_from_0 (by decide) ?_
  refine lv_istore_n (pc := 1) (lv' := [(2, .int 0), (0, .ref y), (1, .int r)]) hx hb dX4_from_1 rfl hl (by decide) rfl (fun ls hl => ?_)
  refine lv_iconst (pc := 2) (v := 0) hx hb dX4_from_2 (by decide) ?_
  refine lv_istore_n (pc := 3) (lv' := [(3, .int 0), (2, .int 0), (0, .ref y), (1, .int r)]) hx hb dX4_from_3 rfl hl (by decide) rfl (fun ls hl => ?_)
  have loop_4 : ∀ (fu9 : Nat) (k : Nat) (a : Int32), bn - k < fu9 → (k ≤ bn) → (a = nI (bv_rf br r k)) → ∀ (ls : Array Slot), lv_has ls 4 [(3, .int (nI k)), (2, .int a), (0, .ref y), (1, .int r)] → W p l e (headSpec wsX4_from ({ frames := 0, cells := 0, slots := 0, locals := 0 })).room s m ([.ref y, .int r] : List Value).toArray below meth c s.heap [] 0 0 (MQ below (vp_Si (fun r9 : Int32 => r9 = (nI (bv_rf br r bn)))) ([.ref y, .int r] : List Value).toArray s 0 0 (fun _ => False)) (F0 m 4 ls []) := by
    intro fu9
    induction fu9 with
    | zero => intro k a hfu; exact absurd hfu (Nat.not_lt_zero _)
    | succ fu9 ih =>
      intro k a hfu hk hi ls hl
      refine lv_iload_n (pc := 4) hx hb dX4_from_4 rfl (lv_at hl 0 rfl) ?_
      refine lv_aload_n (pc := 5) hx hb dX4_from_5 rfl (lv_at hl 2 rfl) ?_
      refine va_get (pc := 6) (D := G) (ci := 4) (v := .int (nI bn)) (C := RX4) (T := TX4) (N := 7) hx hb hts hw1 hown hK hP 0 rfl rfl 3 (by decide) hw0 (fun _ h9 => h9) rfl dX4_from_6 ?_
      refine lv_icmp_ge (pc := 9) (tgt := 34) hx hb dX4_from_9 (by decide) (fun c9_1 => ?_) (fun c9_1 => ?_)
      · have hkn : bn = k := by
          by_cases h : k < bn
          · exact absurd c9_1 (nI_ge h (by omega))
          · omega
        subst hkn
        refine lv_iload_n (pc := 34) hx hb dX4_from_34 rfl (lv_at hl 1 rfl) ?_
        exact W.iret (pc := 35) (v := a) hx hb hr (fun T8 hT8 hW8 => ⟨a, rfl, hi, hT8⟩) (fun _ h => nomatch h) dX4_from_35
      · have hkn : k < bn := by
          by_cases h : k < bn
          · exact h
          · exact absurd (nI_le (by omega) (by omega)) c9_1
        refine lv_aload_n (pc := 12) hx hb dX4_from_12 rfl (lv_at hl 2 rfl) ?_
        refine va_get (pc := 13) (D := G) (ci := 4) (v := .ref yr) (C := RX4) (T := TX4) (N := 7) hx hb hts hw1 hown hK hP 0 rfl rfl 5 (by decide) hw2 (fun _ h9 => h9) rfl dX4_from_13 ?_
        refine lv_iload_n (pc := 16) hx hb dX4_from_16 rfl (lv_at hl 0 rfl) ?_
        refine bv_ial (pc := 17) hx hb hK hP 2 0 rfl rfl (by omega) (by omega) dX4_from_17 ?_
        refine lv_iload_n (pc := 18) hx hb dX4_from_18 rfl (lv_at hl 3 rfl) ?_
        refine lv_icmp_lt (pc := 19) (tgt := 28) hx hb dX4_from_19 (by decide) (fun c19_2 => ?_) (fun c19_2 => ?_)
        · have h2 : ¬ r ≤ br k := Int32.not_le.mpr c19_2
          refine lv_iinc (pc := 28) (v := (nI (k + 1))) (lv' := [(3, .int (nI (k + 1))), (2, .int a), (0, .ref y), (1, .int r)]) hx hb dX4_from_28 hl (k := 0) rfl (nI_1 k) (by decide) rfl (fun ls hl => ?_)
          refine lv_goto (pc := 31) (tgt := 4) hx hb dX4_from_31 (by decide) ?_
          exact ih (k + 1) a (by omega) (by omega) (by simp only [bv_rf, if_neg h2, hi]) ls (lv_sub hl [0, 1, 2, 3] rfl)
        · have h2 : r ≤ br k := Int32.not_lt.mp c19_2
          refine lv_iload_n (pc := 22) hx hb dX4_from_22 rfl (lv_at hl 1 rfl) ?_
          refine lv_iconst (pc := 23) (v := 1) hx hb dX4_from_23 (by decide) ?_
          refine lv_iload_n (pc := 24) hx hb dX4_from_24 rfl (lv_at hl 0 rfl) ?_
          refine lv_ishl (pc := 25) hx hb dX4_from_25 ?_
          refine lv_ior (pc := 26) hx hb dX4_from_26 ?_
          refine lv_istore_n (pc := 27) (lv' := [(2, .int (a ||| (1 <<< ((nI k) &&& 31)))), (3, .int (nI k)), (0, .ref y), (1, .int r)]) hx hb dX4_from_27 rfl hl (by decide) rfl (fun ls hl => ?_)
          refine lv_iinc (pc := 28) (v := (nI (k + 1))) (lv' := [(3, .int (nI (k + 1))), (2, .int (a ||| (1 <<< ((nI k) &&& 31)))), (0, .ref y), (1, .int r)]) hx hb dX4_from_28 hl (k := 1) rfl (nI_1 k) (by decide) rfl (fun ls hl => ?_)
          refine lv_goto (pc := 31) (tgt := 4) hx hb dX4_from_31 (by decide) ?_
          exact ih (k + 1) (a ||| (1 <<< ((nI k) &&& 31))) (by omega) (by omega) (by simp only [bv_rf, if_pos h2, hi]; exact bv_obit (by omega)) ls (lv_sub hl [0, 1, 2, 3] rfl)
  exact loop_4 (bn - 0 + 1) 0 0 (Nat.lt_succ_self _) (Nat.zero_le _) rfl ls (lv_sub hl [0, 1, 2, 3] rfl)
set_option maxHeartbeats 4000000 in
set_option maxRecDepth 100000 in
theorem m_X4_degreeOf (l : Launch) (G : va_G) (cI : ClassId) (y yp yb yr yl bn : Nat) (th h9 : Int32) (bs br : Nat → Int32) (g : Int32) (hn : bn ≤ 10) : Met l yX4_degreeOf wsX4_degreeOf ({ frames := 3, cells := 0, slots := 0, locals := 66 }) (bv_P [.ref y, .int g] G cI (fun H => va_P G vwCl [(y, .inr (4, [.int th, .int h9, .ref yp, .int (nI bn), .ref yb, .ref yr, .ref yl])), (yb, .inl (cI, 10, .inl bs)), (yr, .inl (cI, 10, .inl br))] H)) (vp_Si (fun r9 : Int32 => r9 = (nI (bv_degn bs br bn g)))) 0 0 (fun _ => False) := by
  refine Met.ofW (cc := cX4_degreeOf) (maxL := 3) (ret := (some .int)) (by decide) rfl ?_
  intro p e s m args below meth c s₁ B hml hv
  obtain ⟨rfl, hP, hE⟩ := hv
  have hx := B.exec
  have hb := B.bytes
  have hr := B.returns
  have hts := atoms_spec (ws := wsX4_degreeOf) B.pre
  have hown : s.vm.findClass RX4 = some m.cls := findClass_of_methodNamed B.named
  have hlocks := B.notSynchronized
  have hK := hE.1
  have hw0 := hts (.constant RX4 51 65535) (List.mem_of_getElem? (i := 1) rfl)
  have hP : va_P G vwCl [(y, .inr (4, [.int th, .int h9, .ref yp, .int (nI bn), .ref yb, .ref yr, .ref yl])), (yb, .inl (cI, 10, .inl bs)), (yr, .inl (cI, 10, .inl br))] s.heap := hP
  have hl := lv_entry ([.ref y, .int g]) (n := 3) (Nat.le_of_ble_eq_true rfl)
  rw [lg_entry_eq]
  generalize (lg_sl ([.ref y, .int g]) ++ List.replicate (3 - (lg_sl ([.ref y, .int g])).length) Slot.unset).toArray = ls at hl ⊢
  have hl : lv_has ls 3 [(0, .ref y), (1, .int g)] := hl
  have hp10 := bv_p10 hn
  refine lv_iload_n (pc := 0) hx hb dX4_degreeOf_0 rfl (lv_at hl 1 rfl) ?_
  refine lv_ldc (pc := 1) hx hb hown hw0 dX4_degreeOf_1 ?_
  refine lv_icmp_ne (pc := 3) (tgt := 9) hx hb dX4_degreeOf_3 (by decide) (fun c3_1 => ?_) (fun c3_1 => ?_)
  · have h0 := c3_1
    refine lv_bipush (pc := 9) (v := 9) hx hb dX4_degreeOf_9 (by decide) ?_
    refine lv_istore_n (pc := 11) (lv' := [(2, .int 9), (0, .ref y), (1, .int g)]) hx hb dX4_degreeOf_11 rfl hl (by decide) rfl (fun ls hl => ?_)
    have loop_12 : ∀ (fu9 : Nat) (z : Nat), z < fu9 → (z ≤ 9) → (bv_dg (bv_fr bs br bn g) 9 = bv_dg (bv_fr bs br bn g) z) → ∀ (ls : Array Slot), lv_has ls 3 [(2, .int (nI z)), (0, .ref y), (1, .int g)] → W p l e (headSpec wsX4_degreeOf ({ frames := 3, cells := 0, slots := 0, locals := 66 })).room s m ([.ref y, .int g] : List Value).toArray below meth c s.heap [] 0 0 (MQ below (vp_Si (fun r9 : Int32 => r9 = (nI (bv_degn bs br bn g)))) ([.ref y, .int g] : List Value).toArray s 0 0 (fun _ => False)) (F0 m 12 ls []) := by
      intro fu9
      induction fu9 with
      | zero => intro z hfu; exact absurd hfu (Nat.not_lt_zero _)
      | succ fu9 ih =>
        intro z hfu hz hi ls hl
        refine lv_iload_n (pc := 12) hx hb dX4_degreeOf_12 rfl (lv_at hl 0 rfl) ?_
        refine lv_if_le (pc := 13) (tgt := 35) hx hb dX4_degreeOf_13 (by decide) (fun c13_2 => ?_) (fun c13_2 => ?_)
        · have h1 : z = 0 := by
            by_cases h : z = 0
            · exact h
            · exact absurd c13_2 (nI_nle (by omega) (by omega))
          subst h1
          refine lv_iload_n (pc := 35) hx hb dX4_degreeOf_35 rfl (lv_at hl 0 rfl) ?_
          exact W.iret (pc := 36) (v := (nI 0)) hx hb hr (fun T8 hT8 hW8 => ⟨(nI 0), rfl, (by rw [bv_degn, if_neg h0, hi]; rfl), hT8⟩) (fun _ h => nomatch h) dX4_degreeOf_36
        · have h1 : 1 ≤ z := by
            by_cases h : z = 0
            · subst h; exact absurd (show nI 0 ≤ 0 from by decide) c13_2
            · omega
          obtain ⟨z9, hz9⟩ : ∃ z9, z = z9 + 1 := ⟨z - 1, by omega⟩
          refine lv_aload_n (pc := 16) hx hb dX4_degreeOf_16 rfl (lv_at hl 1 rfl) ?_
          refine lv_aload_n (pc := 17) hx hb dX4_degreeOf_17 rfl (lv_at hl 1 rfl) ?_
          refine lv_iload_n (pc := 18) hx hb dX4_degreeOf_18 rfl (lv_at hl 0 rfl) ?_
          have hPc := hP.sub (ws' := [(y, .inr (4, [.int th, .int h9, .ref yp, .int (nI bn), .ref yb, .ref yr, .ref yl])), (yb, .inl (cI, 10, .inl bs)), (yr, .inl (cI, 10, .inl br))]) [0, 1, 2] rfl
          refine bv_cSi (pc := 19) (E' := (nI (bv_rf br (nI z) bn))) (va_runV (As := [.int (nI z)]) (rest := [.ref y]) ⟨hx, hb, hml, hown, hts⟩ (m_X4_from l G cI y yp yb yr yl bn th h9 bs br (nI z) hn) (cwV 1 hts gX4_degreeOf_X4_from rfl rfl rfl (by decide +kernel) ⟨Nat.le_of_ble_eq_true rfl, Nat.le_of_ble_eq_true rfl⟩) (bv_pV hE hPc (va_recv hK hP (ci := 4) (q0 := 0) rfl rfl)) rfl rfl hl.1 rfl (lv_room (Nat.le_of_ble_eq_true rfl)) dX4_degreeOf_19 ⟨Nat.le_of_ble_eq_true rfl, Nat.le_of_ble_eq_true rfl⟩) rfl ?_
          refine lv_iload_n (pc := 22) hx hb dX4_degreeOf_22 rfl (lv_at hl 2 rfl) ?_
          have hPc := hP.sub (ws' := [(y, .inr (4, [.int th, .int h9, .ref yp, .int (nI bn), .ref yb, .ref yr, .ref yl])), (yb, .inl (cI, 10, .inl bs)), (yr, .inl (cI, 10, .inl br))]) [0, 1, 2] rfl
          refine bv_cSi (pc := 23) (E' := (bv_b (bv_de bs bn (bv_rf br (nI z) bn) g))) (va_runV (As := [.int (nI (bv_rf br (nI z) bn)), .int g]) (rest := []) ⟨hx, hb, hml, hown, hts⟩ (m_X4_doEntail l G cI y yp yb yr yl bn th h9 bs br (bv_rf br (nI z) bn) g hn (bv_rf_lt _ _ _)) (cwV 2 hts gX4_degreeOf_X4_doEntail rfl rfl rfl (by decide +kernel) ⟨Nat.le_of_ble_eq_true rfl, Nat.le_of_ble_eq_true rfl⟩) (bv_pV hE hPc (va_recv hK hP (ci := 4) (q0 := 0) rfl rfl)) rfl rfl hl.1 rfl (lv_room (Nat.le_of_ble_eq_true rfl)) dX4_degreeOf_23 ⟨Nat.le_of_ble_eq_true rfl, Nat.le_of_ble_eq_true rfl⟩) rfl ?_
          refine lv_if_ne (pc := 26) (tgt := 35) hx hb dX4_degreeOf_26 (by decide) (fun c26_7 => ?_) (fun c26_7 => ?_)
          · have h2 := bv_b1.mp c26_7
            refine lv_iload_n (pc := 35) hx hb dX4_degreeOf_35 rfl (lv_at hl 0 rfl) ?_
            exact W.iret (pc := 36) (v := (nI z)) hx hb hr (fun T8 hT8 hW8 => ⟨(nI z), rfl, (by rw [bv_degn, if_neg h0, hi, hz9, bv_dg, if_pos (by rw [← hz9]; exact h2)]), hT8⟩) (fun _ h => nomatch h) dX4_degreeOf_36
          · have h2 := bv_b0.mp c26_7
            refine lv_iinc (pc := 29) (v := (nI (z - 1))) (lv' := [(2, .int (nI (z - 1))), (0, .ref y), (1, .int g)]) hx hb dX4_degreeOf_29 hl (k := 0) rfl (by have := pk_m1 (z - 1); rwa [Nat.sub_add_cancel h1] at this) (by decide) rfl (fun ls hl => ?_)
            refine lv_goto (pc := 32) (tgt := 12) hx hb dX4_degreeOf_32 (by decide) ?_
            exact ih (z - 1) (by omega) (by omega) (by rw [hi, hz9]; simp only [Nat.add_sub_cancel]; rw [bv_dg, if_neg (by rw [← hz9]; show ¬ bv_fr bs br bn g z = true; rw [bv_fr, h2]; decide)]) ls (lv_sub hl [0, 1, 2] rfl)
    exact loop_12 (9 + 1) 9 (Nat.lt_succ_self _) (by omega) rfl ls (lv_sub hl [0, 1, 2] rfl)
  · have h0 := c3_1
    refine lv_bipush (pc := 6) (v := 10) hx hb dX4_degreeOf_6 (by decide) ?_
    exact W.iret (pc := 8) (v := 10) hx hb hr (fun T8 hT8 hW8 => ⟨10, rfl, (by rw [bv_degn, if_pos h0]; rfl), hT8⟩) (fun _ h => nomatch h) dX4_degreeOf_8
