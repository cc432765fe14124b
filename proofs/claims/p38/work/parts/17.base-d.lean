theorem bv_p9 {n : Nat} (h : n < 10) : 2 ^ n ≤ 512 := Nat.pow_le_pow_right (by decide) (show n ≤ 9 by omega)
theorem bv_oI_lt {o : Option Nat} {N : Nat} (h : ∀ b, o = some b → b < N) (hN : N ≤ 1024) (hc : ¬ bv_oI o < 0) : ∃ b, o = some b ∧ b < N := by
  cases o with
  | none => exact absurd (show (-1 : Int32) < 0 by decide) hc
  | some b => exact ⟨b, rfl, h b rfl⟩
theorem bv_oI_neg {o : Option Nat} {N : Nat} (h : ∀ b, o = some b → b < N) (hN : N ≤ 1024) (hc : bv_oI o < 0) : o = none := by
  cases o with
  | none => rfl
  | some b => exact absurd hc (nI_pos (by have := h b rfl; omega))
theorem bv_cI {G : va_G} {cl : List vw_C} {cI cA : ClassId} {U : State} (h : va_K G cl ([(cI, .int)] ++ [(cA, .int)]) U) : cA = cI := by
  have h0 := (h.2 0 (cI, .int) rfl).2
  have h1 := (h.2 1 (cA, .int) rfl).2
  exact Option.some.inj (h1.symm.trans h0)

set_option maxHeartbeats 4000000 in
set_option maxRecDepth 100000 in
theorem m_X0_degreeOf (l : Launch) (G : va_G) (cI : ClassId) (xb as ar am bn : Nat) (bs br mt : Nat → Int32) (g : Int32) (hn : bn ≤ 10) (hM : ∀ t, t < 2 ^ bn → mt t = bv_wi bs t bn) : Met l yX0_degreeOf wsX0_degreeOf ({ frames := 3, cells := 0, slots := 0, locals := 65 }) (bv_P [.ref xb, .int g] G cI (fun H => va_P G vwCl [(xb, .inr (0, [.ref as, .ref ar, .ref am, .int (nI bn)])), (as, .inl (cI, 10, .inl bs)), (ar, .inl (cI, 10, .inl br)), (am, .inl (cI, 1024, .inl mt))] H)) (vp_Si (fun r9 : Int32 => r9 = (nI (bv_degn bs br bn g)))) 0 0 (fun _ => False) := by
  refine Met.ofW (cc := cX0_degreeOf) (maxL := 3) (ret := (some .int)) (by decide) rfl ?_
  intro p e s m args below meth c s₁ B hml hv
  obtain ⟨rfl, hP, hE⟩ := hv
  have hx := B.exec
  have hb := B.bytes
  have hr := B.returns
  have hts := atoms_spec (ws := wsX0_degreeOf) B.pre
  have hown : s.vm.findClass RX0 = some m.cls := findClass_of_methodNamed B.named
  have hlocks := B.notSynchronized
  have hK := hE.1
  have hw0 := hts (.constant RX0 25 65535) (List.mem_of_getElem? (i := 1) rfl)
  have hP : va_P G vwCl [(xb, .inr (0, [.ref as, .ref ar, .ref am, .int (nI bn)])), (as, .inl (cI, 10, .inl bs)), (ar, .inl (cI, 10, .inl br)), (am, .inl (cI, 1024, .inl mt))] s.heap := hP
  have hl := lv_entry ([.ref xb, .int g]) (n := 3) (Nat.le_of_ble_eq_true rfl)
  rw [lg_entry_eq]
  generalize (lg_sl ([.ref xb, .int g]) ++ List.replicate (3 - (lg_sl ([.ref xb, .int g])).length) Slot.unset).toArray = ls at hl ⊢
  have hl : lv_has ls 3 [(0, .ref xb), (1, .int g)] := hl
  have hp10 := bv_p10 hn
  refine lv_iload_n (pc := 0) hx hb dX0_degreeOf_0 rfl (lv_at hl 1 rfl) ?_
  refine lv_ldc (pc := 1) hx hb hown hw0 dX0_degreeOf_1 ?_
  refine lv_icmp_ne (pc := 3) (tgt := 9) hx hb dX0_degreeOf_3 (by decide) (fun c3_1 => ?_) (fun c3_1 => ?_)
  · have h0 := c3_1
    refine lv_bipush (pc := 9) (v := 9) hx hb dX0_degreeOf_9 (by decide) ?_
    refine lv_istore_n (pc := 11) (lv' := [(2, .int 9), (0, .ref xb), (1, .int g)]) hx hb dX0_degreeOf_11 rfl hl (by decide) rfl (fun ls hl => ?_)
    have loop_12 : ∀ (fu9 : Nat) (z : Nat), z < fu9 → (z ≤ 9) → (bv_dg (bv_fr bs br bn g) 9 = bv_dg (bv_fr bs br bn g) z) → ∀ (ls : Array Slot), lv_has ls 3 [(2, .int (nI z)), (0, .ref xb), (1, .int g)] → W p l e (headSpec wsX0_degreeOf ({ frames := 3, cells := 0, slots := 0, locals := 65 })).room s m ([.ref xb, .int g] : List Value).toArray below meth c s.heap [] 0 0 (MQ below (vp_Si (fun r9 : Int32 => r9 = (nI (bv_degn bs br bn g)))) ([.ref xb, .int g] : List Value).toArray s 0 0 (fun _ => False)) (F0 m 12 ls []) := by
      intro fu9
      induction fu9 with
      | zero => intro z hfu; exact absurd hfu (Nat.not_lt_zero _)
      | succ fu9 ih =>
        intro z hfu hz hi ls hl
        refine lv_iload_n (pc := 12) hx hb dX0_degreeOf_12 rfl (lv_at hl 0 rfl) ?_
        refine lv_iconst (pc := 13) (v := 1) hx hb dX0_degreeOf_13 (by decide) ?_
        refine lv_icmp_lt (pc := 14) (tgt := 38) hx hb dX0_degreeOf_14 (by decide) (fun c14_2 => ?_) (fun c14_2 => ?_)
        · have h1 : z = 0 := by
            by_cases h : z = 0
            · exact h
            · exact absurd (show nI z < nI 1 from c14_2) (nI_nlt (by omega) (by omega))
          subst h1
          refine lv_iconst (pc := 38) (v := 0) hx hb dX0_degreeOf_38 (by decide) ?_
          exact W.iret (pc := 39) (v := 0) hx hb hr (fun T8 hT8 hW8 => ⟨0, rfl, (by rw [bv_degn, if_neg h0, hi]; rfl), hT8⟩) (fun _ h => nomatch h) dX0_degreeOf_39
        · have h1 : 1 ≤ z := by
            by_cases h : z = 0
            · subst h; exact absurd (show nI 0 < nI 1 from by decide) c14_2
            · omega
          obtain ⟨z9, hz9⟩ : ∃ z9, z = z9 + 1 := ⟨z - 1, by omega⟩
          refine lv_aload_n (pc := 17) hx hb dX0_degreeOf_17 rfl (lv_at hl 1 rfl) ?_
          refine lv_aload_n (pc := 18) hx hb dX0_degreeOf_18 rfl (lv_at hl 1 rfl) ?_
          refine lv_iload_n (pc := 19) hx hb dX0_degreeOf_19 rfl (lv_at hl 0 rfl) ?_
          have hPc := hP.sub (ws' := [(xb, .inr (0, [.ref as, .ref ar, .ref am, .int (nI bn)])), (as, .inl (cI, 10, .inl bs)), (ar, .inl (cI, 10, .inl br)), (am, .inl (cI, 1024, .inl mt))]) [0, 1, 2, 3] rfl
          refine bv_cSi (pc := 20) (E' := (nI (bv_rf br (nI z) bn))) (va_runV (As := [.int (nI z)]) (rest := [.ref xb]) ⟨hx, hb, hml, hown, hts⟩ (m_X0_rankedFrom l G cI xb as ar am bn bs br mt (nI z) hn) (cwV 1 hts gX0_degreeOf_X0_rankedFrom rfl rfl rfl (by decide +kernel) ⟨Nat.le_of_ble_eq_true rfl, Nat.le_of_ble_eq_true rfl⟩) (bv_pV hE hPc (va_recv hK hP (ci := 0) (q0 := 0) rfl rfl)) rfl rfl hl.1 rfl (lv_room (Nat.le_of_ble_eq_true rfl)) dX0_degreeOf_20 ⟨Nat.le_of_ble_eq_true rfl, Nat.le_of_ble_eq_true rfl⟩) rfl ?_
          refine lv_iload_n (pc := 23) hx hb dX0_degreeOf_23 rfl (lv_at hl 2 rfl) ?_
          have hPc := hP.sub (ws' := [(xb, .inr (0, [.ref as, .ref ar, .ref am, .int (nI bn)])), (as, .inl (cI, 10, .inl bs)), (ar, .inl (cI, 10, .inl br)), (am, .inl (cI, 1024, .inl mt))]) [0, 1, 2, 3] rfl
          refine bv_cSi (pc := 24) (E' := (bv_b (bv_de bs bn (bv_rf br (nI z) bn) g))) (va_runV (As := [.int (nI (bv_rf br (nI z) bn)), .int g]) (rest := []) ⟨hx, hb, hml, hown, hts⟩ (m_X0_reaches l G cI xb as ar am bn bs br mt (bv_rf br (nI z) bn) g hn hM (bv_rf_lt _ _ _)) (cwV 2 hts gX0_degreeOf_X0_reaches rfl rfl rfl (by decide +kernel) ⟨Nat.le_of_ble_eq_true rfl, Nat.le_of_ble_eq_true rfl⟩) (bv_pV hE hPc (va_recv hK hP (ci := 0) (q0 := 0) rfl rfl)) rfl rfl hl.1 rfl (lv_room (Nat.le_of_ble_eq_true rfl)) dX0_degreeOf_24 ⟨Nat.le_of_ble_eq_true rfl, Nat.le_of_ble_eq_true rfl⟩) rfl ?_
          refine lv_if_eq (pc := 27) (tgt := 32) hx hb dX0_degreeOf_27 (by decide) (fun c27_7 => ?_) (fun c27_7 => ?_)
          · have h2 := bv_b0.mp c27_7
            refine lv_iinc (pc := 32) (v := (nI (z - 1))) (lv' := [(2, .int (nI (z - 1))), (0, .ref xb), (1, .int g)]) hx hb dX0_degreeOf_32 hl (k := 0) rfl (by have := pk_m1 (z - 1); rwa [Nat.sub_add_cancel h1] at this) (by decide) rfl (fun ls hl => ?_)
            refine lv_goto (pc := 35) (tgt := 12) hx hb dX0_degreeOf_35 (by decide) ?_
            exact ih (z - 1) (by omega) (by omega) (by rw [hi, hz9]; simp only [Nat.add_sub_cancel]; rw [bv_dg, if_neg (by rw [← hz9]; show ¬ bv_fr bs br bn g z = true; rw [bv_fr, h2]; decide)]) ls (lv_sub hl [0, 1, 2] rfl)
          · have h2 := bv_b1.mp c27_7
            refine lv_iload_n (pc := 30) hx hb dX0_degreeOf_30 rfl (lv_at hl 0 rfl) ?_
            exact W.iret (pc := 31) (v := (nI z)) hx hb hr (fun T8 hT8 hW8 => ⟨(nI z), rfl, (by rw [bv_degn, if_neg h0, hi, hz9, bv_dg, if_pos (by rw [← hz9]; exact h2)]), hT8⟩) (fun _ h => nomatch h) dX0_degreeOf_31
    exact loop_12 (9 + 1) 9 (Nat.lt_succ_self _) (by omega) rfl ls (lv_sub hl [0, 1, 2] rfl)
  · have h0 := c3_1
    refine lv_bipush (pc := 6) (v := 10) hx hb dX0_degreeOf_6 (by decide) ?_
    exact W.iret (pc := 8) (v := 10) hx hb hr (fun T8 hT8 hW8 => ⟨10, rfl, (by rw [bv_degn, if_pos h0]; rfl), hT8⟩) (fun _ h => nomatch h) dX0_degreeOf_8
set_option maxHeartbeats 4000000 in
set_option maxRecDepth 100000 in
theorem m_X0_believedWorlds (l : Launch) (G : va_G) (cI : ClassId) (xb as ar am bn : Nat) (bs br mt : Nat → Int32) (hn : bn ≤ 10) (hM : ∀ t, t < 2 ^ bn → mt t = bv_wi bs t bn) : Met l yX0_believedWorlds wsX0_believedWorlds ({ frames := 4, cells := 0, slots := 0, locals := 87 }) (bv_P [.ref xb] G cI (fun H => va_P G vwCl [(xb, .inr (0, [.ref as, .ref ar, .ref am, .int (nI bn)])), (as, .inl (cI, 10, .inl bs)), (ar, .inl (cI, 10, .inl br)), (am, .inl (cI, 1024, .inl mt))] H)) (vp_Si (fun r9 : Int32 => r9 = (bv_core bs br bn))) 0 0 (fun _ => False) := by
  refine Met.ofW (cc := cX0_believedWorlds) (maxL := 1) (ret := (some .int)) (by decide) rfl ?_
  intro p e s m args below meth c s₁ B hml hv
  obtain ⟨rfl, hP, hE⟩ := hv
  have hx := B.exec
  have hb := B.bytes
  have hr := B.returns
  have hts := atoms_spec (ws := wsX0_believedWorlds) B.pre
  have hown : s.vm.findClass RX0 = some m.cls := findClass_of_methodNamed B.named
  have hlocks := B.notSynchronized
  have hK := hE.1
  have hP : va_P G vwCl [(xb, .inr (0, [.ref as, .ref ar, .ref am, .int (nI bn)])), (as, .inl (cI, 10, .inl bs)), (ar, .inl (cI, 10, .inl br)), (am, .inl (cI, 1024, .inl mt))] s.heap := hP
  have hl := lv_entry ([.ref xb]) (n := 1) (Nat.le_of_ble_eq_true rfl)
  rw [lg_entry_eq]
  generalize (lg_sl ([.ref xb]) ++ List.replicate (1 - (lg_sl ([.ref xb])).length) Slot.unset).toArray = ls at hl ⊢
  have hl : lv_has ls 1 [(0, .ref xb)] := hl
  refine lv_aload_n (pc := 0) hx hb dX0_believedWorlds_0 rfl (lv_at hl 0 rfl) ?_
  refine lv_aload_n (pc := 1) hx hb dX0_believedWorlds_1 rfl (lv_at hl 0 rfl) ?_
  refine lv_aload_n (pc := 2) hx hb dX0_believedWorlds_2 rfl (lv_at hl 0 rfl) ?_
  refine lv_iconst (pc := 3) (v := 0) hx hb dX0_believedWorlds_3 (by decide) ?_
  have hPc := hP.sub (ws' := [(xb, .inr (0, [.ref as, .ref ar, .ref am, .int (nI bn)])), (as, .inl (cI, 10, .inl bs)), (ar, .inl (cI, 10, .inl br)), (am, .inl (cI, 1024, .inl mt))]) [0, 1, 2, 3] rfl
  refine bv_cSi (pc := 4) (E' := (nI (bv_degn bs br bn 0))) (va_runV (As := [.int 0]) (rest := [.ref xb, .ref xb]) ⟨hx, hb, hml, hown, hts⟩ (m_X0_degreeOf l G cI xb as ar am bn bs br mt 0 hn hM) (cwV 1 hts gX0_believedWorlds_X0_degreeOf rfl rfl rfl (by decide +kernel) ⟨Nat.le_of_ble_eq_true rfl, Nat.le_of_ble_eq_true rfl⟩) (bv_pV hE hPc (va_recv hK hP (ci := 0) (q0 := 0) rfl rfl)) rfl rfl hl.1 rfl (lv_room (Nat.le_of_ble_eq_true rfl)) dX0_believedWorlds_4 ⟨Nat.le_of_ble_eq_true rfl, Nat.le_of_ble_eq_true rfl⟩) rfl ?_
  refine lv_iconst (pc := 7) (v := 1) hx hb dX0_believedWorlds_7 (by decide) ?_
  refine lv_iadd (pc := 8) hx hb dX0_believedWorlds_8 ?_
  have hPc := hP.sub (ws' := [(xb, .inr (0, [.ref as, .ref ar, .ref am, .int (nI bn)])), (as, .inl (cI, 10, .inl bs)), (ar, .inl (cI, 10, .inl br)), (am, .inl (cI, 1024, .inl mt))]) [0, 1, 2, 3] rfl
  refine bv_cSi (pc := 9) (E' := (nI (bv_rf br ((nI (bv_degn bs br bn 0)) + 1) bn))) (va_runV (As := [.int ((nI (bv_degn bs br bn 0)) + 1)]) (rest := [.ref xb]) ⟨hx, hb, hml, hown, hts⟩ (m_X0_rankedFrom l G cI xb as ar am bn bs br mt ((nI (bv_degn bs br bn 0)) + 1) hn) (cwV 1 hts gX0_believedWorlds_X0_rankedFrom rfl rfl rfl (by decide +kernel) ⟨Nat.le_of_ble_eq_true rfl, Nat.le_of_ble_eq_true rfl⟩) (bv_pV hE hPc (va_recv hK hP (ci := 0) (q0 := 0) rfl rfl)) rfl rfl hl.1 rfl (lv_room (Nat.le_of_ble_eq_true rfl)) dX0_believedWorlds_9 ⟨Nat.le_of_ble_eq_true rfl, Nat.le_of_ble_eq_true rfl⟩) rfl ?_
  have hPc := hP.sub (ws' := [(xb, .inr (0, [.ref as, .ref ar, .ref am, .int (nI bn)])), (as, .inl (cI, 10, .inl bs)), (ar, .inl (cI, 10, .inl br)), (am, .inl (cI, 1024, .inl mt))]) [0, 1, 2, 3] rfl
  refine bv_cSi (pc := 12) (E' := (bv_wi bs (bv_rf br ((nI (bv_degn bs br bn 0)) + 1) bn) bn)) (va_runV (As := [.int (nI (bv_rf br ((nI (bv_degn bs br bn 0)) + 1) bn))]) (rest := []) ⟨hx, hb, hml, hown, hts⟩ (m_X0_meetOf l G cI xb as ar am bn bs br mt (bv_rf br ((nI (bv_degn bs br bn 0)) + 1) bn) hn hM (bv_rf_lt _ _ _)) (cwV 1 hts gX0_believedWorlds_X0_meetOf rfl rfl rfl (by decide +kernel) ⟨Nat.le_of_ble_eq_true rfl, Nat.le_of_ble_eq_true rfl⟩) (bv_pV hE hPc (va_recv hK hP (ci := 0) (q0 := 0) rfl rfl)) rfl rfl hl.1 rfl (lv_room (Nat.le_of_ble_eq_true rfl)) dX0_believedWorlds_12 ⟨Nat.le_of_ble_eq_true rfl, Nat.le_of_ble_eq_true rfl⟩) rfl ?_
  exact W.iret (pc := 15) (v := (bv_wi bs (bv_rf br ((nI (bv_degn bs br bn 0)) + 1) bn) bn)) hx hb hr (fun T8 hT8 hW8 => ⟨(bv_wi bs (bv_rf br ((nI (bv_degn bs br bn 0)) + 1) bn) bn), rfl, (by rw [bv_core, ← nI_1]), hT8⟩) (fun _ h => nomatch h) dX0_believedWorlds_15
set_option maxHeartbeats 4000000 in
set_option maxRecDepth 100000 in
theorem m_X0_heaviestRemainder (l : Launch) (G : va_G) (cI : ClassId) (xb as ar am bn : Nat) (bs br mt : Nat → Int32) (g : Int32) (hn : bn ≤ 10) (hM : ∀ t, t < 2 ^ bn → mt t = bv_wi bs t bn) : Met l yX0_heaviestRemainder wsX0_heaviestRemainder ({ frames := 3, cells := 0, slots := 0, locals := 66 }) (bv_P [.ref xb, .int g] G cI (fun H => va_P G vwCl [(xb, .inr (0, [.ref as, .ref ar, .ref am, .int (nI bn)])), (as, .inl (cI, 10, .inl bs)), (ar, .inl (cI, 10, .inl br)), (am, .inl (cI, 1024, .inl mt))] H)) (vp_Si (fun r9 : Int32 => r9 = (bv_oI (bv_best (bv_ir bs bn g) (bv_heavy br bn) (2 ^ bn))))) 0 0 (fun _ => False) := by
  refine Met.ofW (cc := cX0_heaviestRemainder) (maxL := 5) (ret := (some .int)) (by decide) rfl ?_
  intro p e s m args below meth c s₁ B hml hv
  obtain ⟨rfl, hP, hE⟩ := hv
  have hx := B.exec
  have hb := B.bytes
  have hr := B.returns
  have hts := atoms_spec (ws := wsX0_heaviestRemainder) B.pre
  have hown : s.vm.findClass RX0 = some m.cls := findClass_of_methodNamed B.named
  have hlocks := B.notSynchronized
  have hK := hE.1
  have hP : va_P G vwCl [(xb, .inr (0, [.ref as, .ref ar, .ref am, .int (nI bn)])), (as, .inl (cI, 10, .inl bs)), (ar, .inl (cI, 10, .inl br)), (am, .inl (cI, 1024, .inl mt))] s.heap := hP
  have hl := lv_entry ([.ref xb, .int g]) (n := 5) (Nat.le_of_ble_eq_true rfl)
  rw [lg_entry_eq]
  generalize (lg_sl ([.ref xb, .int g]) ++ List.replicate (5 - (lg_sl ([.ref xb, .int g])).length) Slot.unset).toArray = ls at hl ⊢
  have hl : lv_has ls 5 [(0, .ref xb), (1, .int g)] := hl
  have hp10 := bv_p10 hn
  refine lv_aload_n (pc := 0) hx hb dX0_heaviestRemainder_0 rfl (lv_at hl 0 rfl) ?_
  have hPc := hP.sub (ws' := [(xb, .inr (0, [.ref as, .ref ar, .ref am, .int (nI bn)])), (as, .inl (cI, 10, .inl bs)), (ar, .inl (cI, 10, .inl br)), (am, .inl (cI, 1024, .inl mt))]) [0, 1, 2, 3] rfl
  refine bv_cSi (pc := 1) (E' := (nI (2 ^ bn))) (va_runV (As := []) (rest := []) ⟨hx, hb, hml, hown, hts⟩ (m_X0_countSets l G cI xb as ar am bn bs br mt hn) (cwV 0 hts gX0_heaviestRemainder_X0_countSets rfl rfl rfl (by decide +kernel) ⟨Nat.le_of_ble_eq_true rfl, Nat.le_of_ble_eq_true rfl⟩) (bv_pV hE hPc (va_recv hK hP (ci := 0) (q0 := 0) rfl rfl)) rfl rfl hl.1 rfl (lv_room (Nat.le_of_ble_eq_true rfl)) dX0_heaviestRemainder_1 ⟨Nat.le_of_ble_eq_true rfl, Nat.le_of_ble_eq_true rfl⟩) rfl ?_
  refine lv_istore_n (pc := 4) (lv' := [(2, .int (nI (2 ^ bn))), (0, .ref xb), (1, .int g)]) hx hb dX0_heaviestRemainder_4 rfl hl (by decide) rfl (fun ls hl => ?_)
  refine lv_iconst (pc := 5) (v := (-1)) hx hb dX0_heaviestRemainder_5 (by decide) ?_
  refine lv_istore_n (pc := 6) (lv' := [(3, .int (-1)), (2, .int (nI (2 ^ bn))), (0, .ref xb), (1, .int g)]) hx hb dX0_heaviestRemainder_6 rfl hl (by decide) rfl (fun ls hl => ?_)
  refine lv_iconst (pc := 7) (v := 0) hx hb dX0_heaviestRemainder_7 (by decide) ?_
  refine lv_istore (pc := 8) (lv' := [(4, .int 0), (3, .int (-1)), (2, .int (nI (2 ^ bn))), (0, .ref xb), (1, .int g)]) hx hb dX0_heaviestRemainder_8 hl (by decide) rfl (fun ls hl => ?_)
  have loop_10 : ∀ (fu9 : Nat) (t : Nat) (o : Option Nat), 2 ^ bn - t < fu9 → (t ≤ 2 ^ bn) → (o = bv_best (bv_ir bs bn g) (bv_heavy br bn) t) → (∀ b, o = some b → b < t) → ∀ (ls : Array Slot), lv_has ls 5 [(4, .int (nI t)), (3, .int (bv_oI o)), (2, .int (nI (2 ^ bn))), (0, .ref xb), (1, .int g)] → W p l e (headSpec wsX0_heaviestRemainder ({ frames := 3, cells := 0, slots := 0, locals := 66 })).room s m ([.ref xb, .int g] : List Value).toArray below meth c s.heap [] 0 0 (MQ below (vp_Si (fun r9 : Int32 => r9 = (bv_oI (bv_best (bv_ir bs bn g) (bv_heavy br bn) (2 ^ bn))))) ([.ref xb, .int g] : List Value).toArray s 0 0 (fun _ => False)) (F0 m 10 ls []) := by
    intro fu9
    induction fu9 with
    | zero => intro t o hfu; exact absurd hfu (Nat.not_lt_zero _)
    | succ fu9 ih =>
      intro t o hfu hk hi ho ls hl
      refine lv_iload (pc := 10) hx hb dX0_heaviestRemainder_10 (lv_at hl 0 rfl) ?_
      refine lv_iload_n (pc := 12) hx hb dX0_heaviestRemainder_12 rfl (lv_at hl 2 rfl) ?_
      refine lv_icmp_ge (pc := 13) (tgt := 54) hx hb dX0_heaviestRemainder_13 (by decide) (fun c13_3 => ?_) (fun c13_3 => ?_)
      · have hkn : 2 ^ bn = t := by
          by_cases h : t < 2 ^ bn
          · exact absurd c13_3 (nI_ge h (by omega))
          · omega
        subst hkn
        refine lv_iload_n (pc := 54) hx hb dX0_heaviestRemainder_54 rfl (lv_at hl 1 rfl) ?_
        exact W.iret (pc := 55) (v := (bv_oI o)) hx hb hr (fun T8 hT8 hW8 => ⟨(bv_oI o), rfl, (by rw [hi]), hT8⟩) (fun _ h => nomatch h) dX0_heaviestRemainder_55
      · have hkn : t < 2 ^ bn := by
          by_cases h : t < 2 ^ bn
          · exact h
          · exact absurd (nI_le (by omega) (by omega)) c13_3
        refine lv_aload_n (pc := 16) hx hb dX0_heaviestRemainder_16 rfl (lv_at hl 3 rfl) ?_
        refine lv_iload (pc := 17) hx hb dX0_heaviestRemainder_17 (lv_at hl 0 rfl) ?_
        refine lv_iload_n (pc := 19) hx hb dX0_heaviestRemainder_19 rfl (lv_at hl 4 rfl) ?_
        have hPc := hP.sub (ws' := [(xb, .inr (0, [.ref as, .ref ar, .ref am, .int (nI bn)])), (as, .inl (cI, 10, .inl bs)), (ar, .inl (cI, 10, .inl br)), (am, .inl (cI, 1024, .inl mt))]) [0, 1, 2, 3] rfl
        refine bv_cSi (pc := 20) (E' := (bv_b (bv_ir bs bn g t))) (va_runV (As := [.int (nI t), .int g]) (rest := []) ⟨hx, hb, hml, hown, hts⟩ (m_X0_isRemainderFor l G cI xb as ar am bn bs br mt t g hn hM hkn) (cwV 2 hts gX0_heaviestRemainder_X0_isRemainderFor rfl rfl rfl (by decide +kernel) ⟨Nat.le_of_ble_eq_true rfl, Nat.le_of_ble_eq_true rfl⟩) (bv_pV hE hPc (va_recv hK hP (ci := 0) (q0 := 0) rfl rfl)) rfl rfl hl.1 rfl (lv_room (Nat.le_of_ble_eq_true rfl)) dX0_heaviestRemainder_20 ⟨Nat.le_of_ble_eq_true rfl, Nat.le_of_ble_eq_true rfl⟩) rfl ?_
        refine lv_if_eq (pc := 23) (tgt := 48) hx hb dX0_heaviestRemainder_23 (by decide) (fun c23_6 => ?_) (fun c23_6 => ?_)
        · have h2 := bv_b0.mp c23_6
          refine lv_iinc (pc := 48) (v := (nI (t + 1))) (lv' := [(4, .int (nI (t + 1))), (3, .int (bv_oI o)), (2, .int (nI (2 ^ bn))), (0, .ref xb), (1, .int g)]) hx hb dX0_heaviestRemainder_48 hl (k := 0) rfl (nI_1 t) (by decide) rfl (fun ls hl => ?_)
          refine lv_goto (pc := 51) (tgt := 10) hx hb dX0_heaviestRemainder_51 (by decide) ?_
          exact ih (t + 1) o (by omega) (by omega) (by rw [bv_best, ← hi]; cases o <;> simp [h2]) (fun b h => by have := ho b h; omega) ls (lv_sub hl [0, 1, 2, 3, 4] rfl)
        · have h2 := bv_b1.mp c23_6
          refine lv_iload_n (pc := 26) hx hb dX0_heaviestRemainder_26 rfl (lv_at hl 1 rfl) ?_
          refine lv_if_lt (pc := 27) (tgt := 45) hx hb dX0_heaviestRemainder_27 (by decide) (fun c27_7 => ?_) (fun c27_7 => ?_)
          · have h3 := bv_oI_neg ho (by omega) c27_7
            refine lv_iload (pc := 45) hx hb dX0_heaviestRemainder_45 (lv_at hl 0 rfl) ?_
            refine lv_istore_n (pc := 47) (lv' := [(3, .int (nI t)), (4, .int (nI t)), (2, .int (nI (2 ^ bn))), (0, .ref xb), (1, .int g)]) hx hb dX0_heaviestRemainder_47 rfl hl (by decide) rfl (fun ls hl => ?_)
            refine lv_iinc (pc := 48) (v := (nI (t + 1))) (lv' := [(4, .int (nI (t + 1))), (3, .int (nI t)), (2, .int (nI (2 ^ bn))), (0, .ref xb), (1, .int g)]) hx hb dX0_heaviestRemainder_48 hl (k := 1) rfl (nI_1 t) (by decide) rfl (fun ls hl => ?_)
            refine lv_goto (pc := 51) (tgt := 10) hx hb dX0_heaviestRemainder_51 (by decide) ?_
            exact ih (t + 1) (some t) (by omega) (by omega) (by rw [bv_best, ← hi, h3]; simp [h2]) (fun b h => by cases h; omega) ls (lv_sub hl [0, 1, 2, 3, 4] rfl)
          · obtain ⟨b, hob, hb9⟩ := bv_oI_lt ho (by omega) c27_7
            have hoe : bv_oI o = nI b := by rw [hob]; rfl
            rw [hoe] at hl
            refine lv_aload_n (pc := 30) hx hb dX0_heaviestRemainder_30 rfl (lv_at hl 3 rfl) ?_
            refine lv_iload (pc := 31) hx hb dX0_heaviestRemainder_31 (lv_at hl 0 rfl) ?_
            have hPc := hP.sub (ws' := [(xb, .inr (0, [.ref as, .ref ar, .ref am, .int (nI bn)])), (as, .inl (cI, 10, .inl bs)), (ar, .inl (cI, 10, .inl br)), (am, .inl (cI, 1024, .inl mt))]) [0, 1, 2, 3] rfl
            refine bv_cSl (pc := 33) (E' := (bv_wt br t bn)) (va_runV (As := [.int (nI t)]) (rest := []) ⟨hx, hb, hml, hown, hts⟩ (m_X0_weight l G cI xb as ar am bn bs br mt t hn hkn) (cwV 1 hts gX0_heaviestRemainder_X0_weight rfl rfl rfl (by decide +kernel) ⟨Nat.le_of_ble_eq_true rfl, Nat.le_of_ble_eq_true rfl⟩) (bv_pV hE hPc (va_recv hK hP (ci := 0) (q0 := 0) rfl rfl)) rfl rfl hl.1 rfl (lv_room (Nat.le_of_ble_eq_true rfl)) dX0_heaviestRemainder_33 ⟨Nat.le_of_ble_eq_true rfl, Nat.le_of_ble_eq_true rfl⟩) rfl ?_
            refine lv_aload_n (pc := 36) hx hb dX0_heaviestRemainder_36 rfl (lv_at hl 3 rfl) ?_
            refine lv_iload_n (pc := 37) hx hb dX0_heaviestRemainder_37 rfl (lv_at hl 1 rfl) ?_
            have hPc := hP.sub (ws' := [(xb, .inr (0, [.ref as, .ref ar, .ref am, .int (nI bn)])), (as, .inl (cI, 10, .inl bs)), (ar, .inl (cI, 10, .inl br)), (am, .inl (cI, 1024, .inl mt))]) [0, 1, 2, 3] rfl
            refine bv_cSl (pc := 38) (E' := (bv_wt br b bn)) (va_runV (As := [.int (nI b)]) (rest := [.long (bv_wt br t bn)]) ⟨hx, hb, hml, hown, hts⟩ (m_X0_weight l G cI xb as ar am bn bs br mt b hn (by omega)) (cwV 1 hts gX0_heaviestRemainder_X0_weight rfl rfl rfl (by decide +kernel) ⟨Nat.le_of_ble_eq_true rfl, Nat.le_of_ble_eq_true rfl⟩) (bv_pV hE hPc (va_recv hK hP (ci := 0) (q0 := 0) rfl rfl)) rfl rfl hl.1 rfl (lv_room (Nat.le_of_ble_eq_true rfl)) dX0_heaviestRemainder_38 ⟨Nat.le_of_ble_eq_true rfl, Nat.le_of_ble_eq_true rfl⟩) rfl ?_
            refine W.lcmp (pc := 41) hx hb dX0_heaviestRemainder_41 ?_
            refine lv_if_le (pc := 42) (tgt := 48) hx hb dX0_heaviestRemainder_42 (by decide) (fun c42_12 => ?_) (fun c42_12 => ?_)
            · have h4 := (lg_cmp_le _ _).mp c42_12
              refine lv_iinc (pc := 48) (v := (nI (t + 1))) (lv' := [(4, .int (nI (t + 1))), (3, .int (nI b)), (2, .int (nI (2 ^ bn))), (0, .ref xb), (1, .int g)]) hx hb dX0_heaviestRemainder_48 hl (k := 0) rfl (nI_1 t) (by decide) rfl (fun ls hl => ?_)
              refine lv_goto (pc := 51) (tgt := 10) hx hb dX0_heaviestRemainder_51 (by decide) ?_
              exact ih (t + 1) (some b) (by omega) (by omega) (by rw [bv_best, ← hi, hob]; simp [h2, bv_heavy, Int64.not_lt.mpr h4]) (fun b8 h => by cases h; omega) ls (lv_sub hl [0, 1, 2, 3, 4] rfl)
            · have h4 := fun h => c42_12 ((lg_cmp_le _ _).mpr h)
              refine lv_iload (pc := 45) hx hb dX0_heaviestRemainder_45 (lv_at hl 0 rfl) ?_
              refine lv_istore_n (pc := 47) (lv' := [(3, .int (nI t)), (4, .int (nI t)), (2, .int (nI (2 ^ bn))), (0, .ref xb), (1, .int g)]) hx hb dX0_heaviestRemainder_47 rfl hl (by decide) rfl (fun ls hl => ?_)
              refine lv_iinc (pc := 48) (v := (nI (t + 1))) (lv' := [(4, .int (nI (t + 1))), (3, .int (nI t)), (2, .int (nI (2 ^ bn))), (0, .ref xb), (1, .int g)]) hx hb dX0_heaviestRemainder_48 hl (k := 1) rfl (nI_1 t) (by decide) rfl (fun ls hl => ?_)
              refine lv_goto (pc := 51) (tgt := 10) hx hb dX0_heaviestRemainder_51 (by decide) ?_
              exact ih (t + 1) (some t) (by omega) (by omega) (by rw [bv_best, ← hi, hob]; simp [h2, bv_heavy, Int64.not_le.mp h4]) (fun b h => by cases h; omega) ls (lv_sub hl [0, 1, 2, 3, 4] rfl)
  exact loop_10 (2 ^ bn - 0 + 1) 0 none (Nat.lt_succ_self _) (Nat.zero_le _) rfl (fun b h => nomatch h) ls (lv_sub hl [0, 1, 2, 3, 4] rfl)
