set_option maxHeartbeats 4000000 in
set_option maxRecDepth 100000 in
theorem m_X4_giveUp (l : Launch) (G : va_G) (cI : ClassId) (sz : Nat) (y yp yb yr yl pn bn : Nat) (th : Int32) (pf bs br lv : Nat → Int32) (mt : Nat → Int32) (i : Int32) (hp : pn ≤ 12) (hn : bn ≤ 10) : Met l yX4_giveUp wsX4_giveUp ({ frames := 2, cells := 0, slots := 0, locals := 43 }) (bv_P [.ref y, .int i] G cI (fun H => H.size = sz ∧ va_P G vwCl [(y, .inr (4, [.int th, .int (nI pn), .ref yp, .int (nI bn), .ref yb, .ref yr, .ref yl])), (yp, .inl (cI, 12, .inl pf)), (yb, .inl (cI, 10, .inl bs)), (yr, .inl (cI, 10, .inl br)), (yl, .inl (cI, 16, .inl lv))] H ∧ va_D (fun _ => True) [(y, .inr (4, [.int th, .int (nI pn), .ref yp, .int (nI bn), .ref yb, .ref yr, .ref yl])), (yp, .inl (cI, 12, .inl pf)), (yb, .inl (cI, 10, .inl bs)), (yr, .inl (cI, 10, .inl br)), (yl, .inl (cI, 16, .inl lv))])) (va_Qi (fun (r9 : Int32) (_ : Unit) => r9 = (bv_if (if ¬ (0 ≤ i ∧ i < nI (2 ^ bn)) then 1 else 0) (nI (bv_rm i.toNatClampNeg bs br mt bn).1) 0)) (fun (_ : Unit) (T9 : State) => va_P G vwCl [(y, .inr (4, [.int (nI (if ¬ (0 ≤ i ∧ i < nI (2 ^ bn)) then 1 else 0)), .int (nI pn), .ref yp, .int (nI (bv_if (if ¬ (0 ≤ i ∧ i < nI (2 ^ bn)) then 1 else 0) ((bv_rm i.toNatClampNeg bs br mt bn).1) bn)), .ref yb, .ref yr, .ref yl])), (yp, .inl (cI, 12, .inl pf)), (yb, .inl (cI, 10, .inl (bv_if (if ¬ (0 ≤ i ∧ i < nI (2 ^ bn)) then 1 else 0) ((bv_rm i.toNatClampNeg bs br mt bn).2.1) bs))), (yr, .inl (cI, 10, .inl (bv_if (if ¬ (0 ≤ i ∧ i < nI (2 ^ bn)) then 1 else 0) ((bv_rm i.toNatClampNeg bs br mt bn).2.2.1) br))), (yl, .inl (cI, 16, .inl lv))] T9.heap) (va_A [(y, .inr (4, [.int th, .int (nI pn), .ref yp, .int (nI bn), .ref yb, .ref yr, .ref yl])), (yp, .inl (cI, 12, .inl pf)), (yb, .inl (cI, 10, .inl bs)), (yr, .inl (cI, 10, .inl br)), (yl, .inl (cI, 16, .inl lv))] sz)) 0 0 (va_A [(y, .inr (4, [.int th, .int (nI pn), .ref yp, .int (nI bn), .ref yb, .ref yr, .ref yl])), (yp, .inl (cI, 12, .inl pf)), (yb, .inl (cI, 10, .inl bs)), (yr, .inl (cI, 10, .inl br)), (yl, .inl (cI, 16, .inl lv))] sz) := by
  refine Met.ofW (cc := cX4_giveUp) (maxL := 4) (ret := (some .int)) (by decide) rfl ?_
  intro p e s m args below meth c s₁ B hml hv
  obtain ⟨rfl, ⟨hsz, hP, hD0⟩, hE⟩ := hv
  have hx := B.exec
  have hb := B.bytes
  have hr := B.returns
  have hts := atoms_spec (ws := wsX4_giveUp) B.pre
  have hown : s.vm.findClass RX4 = some m.cls := findClass_of_methodNamed B.named
  have hlocks := B.notSynchronized
  have hK := hE.1
  have hw0 := hts (.fieldLink RX4 22 "BeliefReviserModel" "thrown" "I") (List.mem_of_getElem? (i := 1) rfl)
  have hw1 : ∀ w ∈ u_ws RX4 TX4 7, w ∈ wsX4_giveUp := by decide +kernel
  have hw2 := hts (.fieldLink RX4 26 "BeliefReviserModel" "size" "I") (List.mem_of_getElem? (i := 2) rfl)
  have hw3 := hts (.static yX4_has) (List.mem_of_getElem? (i := 18) rfl)
  have hw4 := hts (.fieldLink RX4 13 "BeliefReviserModel" "base" "[I") (List.mem_of_getElem? (i := 3) rfl)
  have hw5 := hts (.fieldLink RX4 16 "BeliefReviserModel" "ranks" "[I") (List.mem_of_getElem? (i := 4) rfl)
  subst hsz
  have hD := hD0.self (sz := s.heap.size)
  generalize hAe : va_A [(y, .inr (4, [.int th, .int (nI pn), .ref yp, .int (nI bn), .ref yb, .ref yr, .ref yl])), (yp, .inl (cI, 12, .inl pf)), (yb, .inl (cI, 10, .inl bs)), (yr, .inl (cI, 10, .inl br)), (yl, .inl (cI, 16, .inl lv))] s.heap.size = A at hD ⊢
  have hA : ∀ q : Nat, s.heap.size ≤ q → A q := fun q h => by rw [← hAe]; exact Or.inr h
  have hS : va_S A s.heap s.heap [] := va_S.rf
  have hP : va_P G vwCl [(y, .inr (4, [.int th, .int (nI pn), .ref yp, .int (nI bn), .ref yb, .ref yr, .ref yl])), (yp, .inl (cI, 12, .inl pf)), (yb, .inl (cI, 10, .inl bs)), (yr, .inl (cI, 10, .inl br)), (yl, .inl (cI, 16, .inl lv))] s.heap := hP
  have hl := lv_entry ([.ref y, .int i]) (n := 4) (Nat.le_of_ble_eq_true rfl)
  rw [lg_entry_eq]
  generalize (lg_sl ([.ref y, .int i]) ++ List.replicate (4 - (lg_sl ([.ref y, .int i])).length) Slot.unset).toArray = ls at hl ⊢
  have hl : lv_has ls 4 [(0, .ref y), (1, .int i)] := hl
  refine lv_aload_n (pc := 0) hx hb dX4_giveUp_0 rfl (lv_at hl 0 rfl) ?_
  refine lv_iconst (pc := 1) (v := 0) hx hb dX4_giveUp_1 (by decide) ?_
  refine va_put (pc := 2) (D := G) (ci := 4) (v := .int 0) (ty := .int) (C := RX4) (T := TX4) (N := 7) hx hb hts hw1 tyX4 tyX4_ok nmX4 hown hK hP hD hS 0 rfl rfl 0 (by decide) hw0 (fun _ h9 => h9) rfl (by decide +kernel) rfl rfl (Nat.le_of_ble_eq_true rfl) dX4_giveUp_2 (fun H locs hP hD hS => ?_)
  have hP : va_P G vwCl [(y, .inr (4, [.int 0, .int (nI pn), .ref yp, .int (nI bn), .ref yb, .ref yr, .ref yl])), (yp, .inl (cI, 12, .inl pf)), (yb, .inl (cI, 10, .inl bs)), (yr, .inl (cI, 10, .inl br)), (yl, .inl (cI, 16, .inl lv))] H := hP
  have hD : va_D A [(y, .inr (4, [.int 0, .int (nI pn), .ref yp, .int (nI bn), .ref yb, .ref yr, .ref yl])), (yp, .inl (cI, 12, .inl pf)), (yb, .inl (cI, 10, .inl bs)), (yr, .inl (cI, 10, .inl br)), (yl, .inl (cI, 16, .inl lv))] := hD
  refine lv_aload_n (pc := 5) hx hb dX4_giveUp_5 rfl (lv_at hl 0 rfl) ?_
  refine lv_iload_n (pc := 6) hx hb dX4_giveUp_6 rfl (lv_at hl 1 rfl) ?_
  have hPc := hP.sub (ws' := [(y, .inr (4, [.int 0, .int (nI pn), .ref yp, .int (nI bn), .ref yb, .ref yr, .ref yl]))]) [0] rfl
  refine bv_cSi (pc := 7) (E' := (bv_b (decide (0 ≤ i ∧ i < nI (2 ^ bn))))) (va_runV (As := [.int i]) (rest := []) ⟨hx, hb, hml, hown, hts⟩ (m_X4_isSet l G cI y yp yb yr yl bn 0 (nI pn) i (by first | assumption | omega)) (cwV 1 hts gX4_giveUp_X4_isSet rfl rfl rfl (by decide +kernel) ⟨Nat.le_of_ble_eq_true rfl, Nat.le_of_ble_eq_true rfl⟩) (bv_pV hE hPc (va_recv hK hP (ci := 4) (q0 := 0) rfl rfl)) rfl rfl hl.1 rfl (lv_room (Nat.le_of_ble_eq_true rfl)) dX4_giveUp_7 ⟨Nat.le_of_ble_eq_true rfl, Nat.le_of_ble_eq_true rfl⟩) rfl ?_
  refine lv_if_ne (pc := 10) (tgt := 19) hx hb dX4_giveUp_10 (by decide) (fun c10_3 => ?_) (fun c10_3 => ?_)
  · have hck0 := of_decide_eq_true (bv_b1.mp c10_3)
    obtain ⟨t, ht, rfl⟩ := bv_ix hck0.1 hck0.2 (by have := bv_p10 hn; omega)
    have hp10 := bv_p10 hn
    refine lv_iconst (pc := 19) (v := 0) hx hb dX4_giveUp_19 (by decide) ?_
    refine lv_istore_n (pc := 20) (lv' := [(2, .int 0), (0, .ref y), (1, .int (nI t))]) hx hb dX4_giveUp_20 rfl hl (by decide) rfl (fun ls hl => ?_)
    refine lv_iconst (pc := 21) (v := 0) hx hb dX4_giveUp_21 (by decide) ?_
    refine lv_istore_n (pc := 22) (lv' := [(3, .int 0), (2, .int 0), (0, .ref y), (1, .int (nI t))]) hx hb dX4_giveUp_22 rfl hl (by decide) rfl (fun ls hl => ?_)
    have loop_23 : ∀ (fu9 : Nat) (k : Nat) (z : Nat) (f1 : Nat → Int32) (f2 : Nat → Int32) (f3 : Nat → Int32), bn - k < fu9 → (k ≤ bn) → (z ≤ k) → (bv_rm t bs br mt k = (z, f1, f2, f3)) → ∀ (H : Heap) (locs : List Loc), va_P G vwCl [(y, .inr (4, [.int 0, .int (nI pn), .ref yp, .int (nI bn), .ref yb, .ref yr, .ref yl])), (yp, .inl (cI, 12, .inl pf)), (yb, .inl (cI, 10, .inl f1)), (yr, .inl (cI, 10, .inl f2)), (yl, .inl (cI, 16, .inl lv))] H → va_D A [(y, .inr (4, [.int 0, .int (nI pn), .ref yp, .int (nI bn), .ref yb, .ref yr, .ref yl])), (yp, .inl (cI, 12, .inl pf)), (yb, .inl (cI, 10, .inl f1)), (yr, .inl (cI, 10, .inl f2)), (yl, .inl (cI, 16, .inl lv))] → va_S A s.heap H locs → ∀ (ls : Array Slot), lv_has ls 4 [(3, .int (nI k)), (2, .int (nI z)), (0, .ref y), (1, .int (nI t))] → W p l e (headSpec wsX4_giveUp ({ frames := 2, cells := 0, slots := 0, locals := 43 })).room s m ([.ref y, .int (nI t)] : List Value).toArray below meth c H locs 0 0 (MQ below (va_Qi (fun (r9 : Int32) (_ : Unit) => r9 = (bv_if (if ¬ (0 ≤ (nI t) ∧ (nI t) < nI (2 ^ bn)) then 1 else 0) (nI (bv_rm (nI t).toNatClampNeg bs br mt bn).1) 0)) (fun (_ : Unit) (T9 : State) => va_P G vwCl [(y, .inr (4, [.int (nI (if ¬ (0 ≤ (nI t) ∧ (nI t) < nI (2 ^ bn)) then 1 else 0)), .int (nI pn), .ref yp, .int (nI (bv_if (if ¬ (0 ≤ (nI t) ∧ (nI t) < nI (2 ^ bn)) then 1 else 0) ((bv_rm (nI t).toNatClampNeg bs br mt bn).1) bn)), .ref yb, .ref yr, .ref yl])), (yp, .inl (cI, 12, .inl pf)), (yb, .inl (cI, 10, .inl (bv_if (if ¬ (0 ≤ (nI t) ∧ (nI t) < nI (2 ^ bn)) then 1 else 0) ((bv_rm (nI t).toNatClampNeg bs br mt bn).2.1) bs))), (yr, .inl (cI, 10, .inl (bv_if (if ¬ (0 ≤ (nI t) ∧ (nI t) < nI (2 ^ bn)) then 1 else 0) ((bv_rm (nI t).toNatClampNeg bs br mt bn).2.2.1) br))), (yl, .inl (cI, 16, .inl lv))] T9.heap) A) ([.ref y, .int (nI t)] : List Value).toArray s 0 0 A) (F0 m 23 ls []) := by
      intro fu9
      induction fu9 with
      | zero => intro k z f1 f2 f3 hfu; exact absurd hfu (Nat.not_lt_zero _)
      | succ fu9 ih =>
        intro k z f1 f2 f3 hfu hk hz hi H locs hP hD hS ls hl
        refine lv_iload_n (pc := 23) hx hb dX4_giveUp_23 rfl (lv_at hl 0 rfl) ?_
        refine lv_aload_n (pc := 24) hx hb dX4_giveUp_24 rfl (lv_at hl 2 rfl) ?_
        refine va_get (pc := 25) (D := G) (ci := 4) (v := .int (nI bn)) (C := RX4) (T := TX4) (N := 7) hx hb hts hw1 hown hK hP 0 rfl rfl 3 (by decide) hw2 (fun _ h9 => h9) rfl dX4_giveUp_25 ?_
        refine lv_icmp_ge (pc := 28) (tgt := 75) hx hb dX4_giveUp_28 (by decide) (fun c28_4 => ?_) (fun c28_4 => ?_)
        · have hkn : bn = k := by
            by_cases h : k < bn
            · exact absurd c28_4 (nI_ge h (by omega))
            · omega
          subst hkn
          refine lv_aload_n (pc := 75) hx hb dX4_giveUp_75 rfl (lv_at hl 2 rfl) ?_
          refine lv_iload_n (pc := 76) hx hb dX4_giveUp_76 rfl (lv_at hl 1 rfl) ?_
          refine va_put (pc := 77) (D := G) (ci := 4) (v := .int (nI z)) (ty := .int) (C := RX4) (T := TX4) (N := 7) hx hb hts hw1 tyX4 tyX4_ok nmX4 hown hK hP hD hS 0 rfl rfl 3 (by decide) hw2 (fun _ h9 => h9) rfl (by decide +kernel) rfl rfl (Nat.le_of_ble_eq_true rfl) dX4_giveUp_77 (fun H locs hP hD hS => ?_)
          have hP : va_P G vwCl [(y, .inr (4, [.int 0, .int (nI pn), .ref yp, .int (nI z), .ref yb, .ref yr, .ref yl])), (yp, .inl (cI, 12, .inl pf)), (yb, .inl (cI, 10, .inl f1)), (yr, .inl (cI, 10, .inl f2)), (yl, .inl (cI, 16, .inl lv))] H := hP
          have hD : va_D A [(y, .inr (4, [.int 0, .int (nI pn), .ref yp, .int (nI z), .ref yb, .ref yr, .ref yl])), (yp, .inl (cI, 12, .inl pf)), (yb, .inl (cI, 10, .inl f1)), (yr, .inl (cI, 10, .inl f2)), (yl, .inl (cI, 16, .inl lv))] := hD
          refine lv_aload_n (pc := 80) hx hb dX4_giveUp_80 rfl (lv_at hl 2 rfl) ?_
          refine va_get (pc := 81) (D := G) (ci := 4) (v := .int (nI z)) (C := RX4) (T := TX4) (N := 7) hx hb hts hw1 hown hK hP 0 rfl rfl 3 (by decide) hw2 (fun _ h9 => h9) rfl dX4_giveUp_81 ?_
          have hP9 : va_P G vwCl [(y, .inr (4, [.int (nI (if ¬ (0 ≤ (nI t) ∧ (nI t) < nI (2 ^ bn)) then 1 else 0)), .int (nI pn), .ref yp, .int (nI (bv_if (if ¬ (0 ≤ (nI t) ∧ (nI t) < nI (2 ^ bn)) then 1 else 0) ((bv_rm (nI t).toNatClampNeg bs br mt bn).1) bn)), .ref yb, .ref yr, .ref yl])), (yp, .inl (cI, 12, .inl pf)), (yb, .inl (cI, 10, .inl (bv_if (if ¬ (0 ≤ (nI t) ∧ (nI t) < nI (2 ^ bn)) then 1 else 0) ((bv_rm (nI t).toNatClampNeg bs br mt bn).2.1) bs))), (yr, .inl (cI, 10, .inl (bv_if (if ¬ (0 ≤ (nI t) ∧ (nI t) < nI (2 ^ bn)) then 1 else 0) ((bv_rm (nI t).toNatClampNeg bs br mt bn).2.2.1) br))), (yl, .inl (cI, 16, .inl lv))] H := by rw [if_neg (not_not_intro hck0), nI_clamp (by omega), hi]; exact hP
          exact W.iret (pc := 84) (v := (nI z)) hx hb hr (fun T8 hT8 hW8 => ⟨⟨(nI z), (), rfl, (by rw [if_neg (not_not_intro hck0), nI_clamp (by omega), hi]; rfl), bv_hP hT8 hP9⟩, hS.F hT8⟩) hS.2.2 dX4_giveUp_84
        · have hkn : k < bn := by
            by_cases h : k < bn
            · exact h
            · exact absurd (nI_le (by omega) (by omega)) c28_4
          refine lv_iload_n (pc := 31) hx hb dX4_giveUp_31 rfl (lv_at hl 3 rfl) ?_
          refine lv_iload_n (pc := 32) hx hb dX4_giveUp_32 rfl (lv_at hl 0 rfl) ?_
          have hPc := hP.sub (ws' := []) [] rfl
          refine bv_cSi (pc := 33) (E' := (bv_b (t.testBit k))) (va_runS (As := [.int (nI t), .int (nI k)]) (rest := []) ⟨hx, hb, hml, hown, hts⟩ (m_X4_has l G cI (nI t) (nI k) ) (va_cwS 2 hts gX4_giveUp_X4_has rfl rfl rfl (by decide +kernel) ⟨Nat.le_of_ble_eq_true rfl, Nat.le_of_ble_eq_true rfl⟩) (bv_pS hE hPc) rfl rfl hl.1 rfl (lv_room (Nat.le_of_ble_eq_true rfl)) dX4_giveUp_33 ⟨Nat.le_of_ble_eq_true rfl, Nat.le_of_ble_eq_true rfl⟩) (by rw [bv_has_nI (by omega) (by omega)]) ?_
          refine lv_if_eq (pc := 36) (tgt := 42) hx hb dX4_giveUp_36 (by decide) (fun c36_7 => ?_) (fun c36_7 => ?_)
          · have h2 := bv_b0.mp c36_7
            refine lv_aload_n (pc := 42) hx hb dX4_giveUp_42 rfl (lv_at hl 2 rfl) ?_
            refine va_get (pc := 43) (D := G) (ci := 4) (v := .ref yb) (C := RX4) (T := TX4) (N := 7) hx hb hts hw1 hown hK hP 0 rfl rfl 4 (by decide) hw4 (fun _ h9 => h9) rfl dX4_giveUp_43 ?_
            refine lv_iload_n (pc := 46) hx hb dX4_giveUp_46 rfl (lv_at hl 1 rfl) ?_
            refine lv_aload_n (pc := 47) hx hb dX4_giveUp_47 rfl (lv_at hl 2 rfl) ?_
            refine va_get (pc := 48) (D := G) (ci := 4) (v := .ref yb) (C := RX4) (T := TX4) (N := 7) hx hb hts hw1 hown hK hP 0 rfl rfl 4 (by decide) hw4 (fun _ h9 => h9) rfl dX4_giveUp_48 ?_
            refine lv_iload_n (pc := 51) hx hb dX4_giveUp_51 rfl (lv_at hl 0 rfl) ?_
            refine bv_ial (pc := 52) hx hb hK hP 2 0 rfl rfl (by omega) (by omega) dX4_giveUp_52 ?_
            refine bv_ias (pc := 53) hx hb hK hP hD hS 2 0 rfl rfl (by omega) (by omega) dX4_giveUp_53 (fun H locs hP hD hS => ?_)
            have hP : va_P G vwCl [(y, .inr (4, [.int 0, .int (nI pn), .ref yp, .int (nI bn), .ref yb, .ref yr, .ref yl])), (yp, .inl (cI, 12, .inl pf)), (yb, .inl (cI, 10, .inl (upd f1 z (f1 k)))), (yr, .inl (cI, 10, .inl f2)), (yl, .inl (cI, 16, .inl lv))] H := hP
            have hD : va_D A [(y, .inr (4, [.int 0, .int (nI pn), .ref yp, .int (nI bn), .ref yb, .ref yr, .ref yl])), (yp, .inl (cI, 12, .inl pf)), (yb, .inl (cI, 10, .inl (upd f1 z (f1 k)))), (yr, .inl (cI, 10, .inl f2)), (yl, .inl (cI, 16, .inl lv))] := hD
            refine lv_aload_n (pc := 54) hx hb dX4_giveUp_54 rfl (lv_at hl 2 rfl) ?_
            refine va_get (pc := 55) (D := G) (ci := 4) (v := .ref yr) (C := RX4) (T := TX4) (N := 7) hx hb hts hw1 hown hK hP 0 rfl rfl 5 (by decide) hw5 (fun _ h9 => h9) rfl dX4_giveUp_55 ?_
            refine lv_iload_n (pc := 58) hx hb dX4_giveUp_58 rfl (lv_at hl 1 rfl) ?_
            refine lv_aload_n (pc := 59) hx hb dX4_giveUp_59 rfl (lv_at hl 2 rfl) ?_
            refine va_get (pc := 60) (D := G) (ci := 4) (v := .ref yr) (C := RX4) (T := TX4) (N := 7) hx hb hts hw1 hown hK hP 0 rfl rfl 5 (by decide) hw5 (fun _ h9 => h9) rfl dX4_giveUp_60 ?_
            refine lv_iload_n (pc := 63) hx hb dX4_giveUp_63 rfl (lv_at hl 0 rfl) ?_
            refine bv_ial (pc := 64) hx hb hK hP 3 0 rfl rfl (by omega) (by omega) dX4_giveUp_64 ?_
            refine bv_ias (pc := 65) hx hb hK hP hD hS 3 0 rfl rfl (by omega) (by omega) dX4_giveUp_65 (fun H locs hP hD hS => ?_)
            have hP : va_P G vwCl [(y, .inr (4, [.int 0, .int (nI pn), .ref yp, .int (nI bn), .ref yb, .ref yr, .ref yl])), (yp, .inl (cI, 12, .inl pf)), (yb, .inl (cI, 10, .inl (upd f1 z (f1 k)))), (yr, .inl (cI, 10, .inl (upd f2 z (f2 k)))), (yl, .inl (cI, 16, .inl lv))] H := hP
            have hD : va_D A [(y, .inr (4, [.int 0, .int (nI pn), .ref yp, .int (nI bn), .ref yb, .ref yr, .ref yl])), (yp, .inl (cI, 12, .inl pf)), (yb, .inl (cI, 10, .inl (upd f1 z (f1 k)))), (yr, .inl (cI, 10, .inl (upd f2 z (f2 k)))), (yl, .inl (cI, 16, .inl lv))] := hD
            refine lv_iinc (pc := 66) (v := (nI (z + 1))) (lv' := [(2, .int (nI (z + 1))), (3, .int (nI k)), (0, .ref y), (1, .int (nI t))]) hx hb dX4_giveUp_66 hl (k := 1) rfl (nI_1 z) (by decide) rfl (fun ls hl => ?_)
            refine lv_iinc (pc := 69) (v := (nI (k + 1))) (lv' := [(3, .int (nI (k + 1))), (2, .int (nI (z + 1))), (0, .ref y), (1, .int (nI t))]) hx hb dX4_giveUp_69 hl (k := 1) rfl (nI_1 k) (by decide) rfl (fun ls hl => ?_)
            refine lv_goto (pc := 72) (tgt := 23) hx hb dX4_giveUp_72 (by decide) ?_
            exact ih (k + 1) (z + 1) (upd f1 z (f1 k)) (upd f2 z (f2 k)) (bv_mx f3 (2 ^ z) (f1 k) (2 ^ z)) (by omega) (by omega) (by omega) (by rw [bv_rm, if_neg (by rw [h2]; decide), hi]) H _ hP hD hS ls (lv_sub hl [0, 1, 2, 3] rfl)
          · have h2 := bv_b1.mp c36_7
            refine lv_goto (pc := 39) (tgt := 69) hx hb dX4_giveUp_39 (by decide) ?_
            refine lv_iinc (pc := 69) (v := (nI (k + 1))) (lv' := [(3, .int (nI (k + 1))), (2, .int (nI z)), (0, .ref y), (1, .int (nI t))]) hx hb dX4_giveUp_69 hl (k := 0) rfl (nI_1 k) (by decide) rfl (fun ls hl => ?_)
            refine lv_goto (pc := 72) (tgt := 23) hx hb dX4_giveUp_72 (by decide) ?_
            exact ih (k + 1) z f1 f2 f3 (by omega) (by omega) (by omega) (by rw [bv_rm, if_pos h2, hi]) H _ hP hD hS ls (lv_sub hl [0, 1, 2, 3] rfl)
    exact loop_23 (bn - 0 + 1) 0 0 bs br mt (Nat.lt_succ_self _) (Nat.zero_le _) (Nat.zero_le _) rfl H _ hP hD hS ls (lv_sub hl [0, 1, 2, 3] rfl)
  · have hbad := of_decide_eq_false (bv_b0.mp c10_3)
    refine lv_aload_n (pc := 13) hx hb dX4_giveUp_13 rfl (lv_at hl 0 rfl) ?_
    refine lv_iconst (pc := 14) (v := 1) hx hb dX4_giveUp_14 (by decide) ?_
    have hPc := hP.sub (ws' := [(y, .inr (4, [.int 0, .int (nI pn), .ref yp, .int (nI bn), .ref yb, .ref yr, .ref yl]))]) [0] rfl
    have hDc := hD.sub (ws' := [(y, .inr (4, [.int 0, .int (nI pn), .ref yp, .int (nI bn), .ref yb, .ref yr, .ref yl]))]) [0] (by decide) rfl
    have hFc := va_free (wc := [(y, .inr (4, [.int 0, .int (nI pn), .ref yp, .int (nI bn), .ref yb, .ref yr, .ref yl]))]) hD hS hA [0] rfl
    refine bv_cMi (pc := 15) (E' := 0) (va_runV (As := [.int 1]) (rest := []) ⟨hx, hb, hml, hown, hts⟩ (m_X4_no l G cI H.size y yp yb yr yl 0 (nI pn) (nI bn) 1 ) (cwV 1 hts gX4_giveUp_X4_no rfl rfl rfl (by decide +kernel) ⟨Nat.le_of_ble_eq_true rfl, Nat.le_of_ble_eq_true rfl⟩) (bv_pV hE ⟨rfl, hPc, hDc.weaken (fun _ _ _ _ => trivial)⟩ (va_recv hK hP (ci := 4) (q0 := 0) rfl rfl)) rfl rfl hl.1 rfl (lv_room (Nat.le_of_ble_eq_true rfl)) dX4_giveUp_15 ⟨Nat.le_of_ble_eq_true rfl, Nat.le_of_ble_eq_true rfl⟩) hS (fun q _ h => hFc q h) hFc rfl (fun t8 H1 locs ht8 hvm8 hB8 hz1 hk1 hS => ?_)
    have hP1 : va_P G vwCl [(y, .inr (4, [.int 1, .int (nI pn), .ref yp, .int (nI bn), .ref yb, .ref yr, .ref yl]))] H1 := by rw [← ht8]; exact hB8
    obtain ⟨hP, hD⟩ := va_join (wr := [(yp, .inl (cI, 12, .inl pf)), (yb, .inl (cI, 10, .inl bs)), (yr, .inl (cI, 10, .inl br)), (yl, .inl (cI, 16, .inl lv))]) (w1 := [(y, .inr (4, [.int 1, .int (nI pn), .ref yp, .int (nI bn), .ref yb, .ref yr, .ref yl]))]) hP hD [0] [1, 2, 3, 4] rfl rfl (by decide) (by decide) hk1 hFc hP1 (bv_Dm (w0 := [(y, .inr (4, [.int 0, .int (nI pn), .ref yp, .int (nI bn), .ref yb, .ref yr, .ref yl]))]) [y] rfl rfl hDc.self)
    have hP : va_P G vwCl [(y, .inr (4, [.int 1, .int (nI pn), .ref yp, .int (nI bn), .ref yb, .ref yr, .ref yl])), (yp, .inl (cI, 12, .inl pf)), (yb, .inl (cI, 10, .inl bs)), (yr, .inl (cI, 10, .inl br)), (yl, .inl (cI, 16, .inl lv))] H1 := hP.sub (ws' := [(y, .inr (4, [.int 1, .int (nI pn), .ref yp, .int (nI bn), .ref yb, .ref yr, .ref yl])), (yp, .inl (cI, 12, .inl pf)), (yb, .inl (cI, 10, .inl bs)), (yr, .inl (cI, 10, .inl br)), (yl, .inl (cI, 16, .inl lv))]) [4, 0, 1, 2, 3] rfl
    have hD : va_D A [(y, .inr (4, [.int 1, .int (nI pn), .ref yp, .int (nI bn), .ref yb, .ref yr, .ref yl])), (yp, .inl (cI, 12, .inl pf)), (yb, .inl (cI, 10, .inl bs)), (yr, .inl (cI, 10, .inl br)), (yl, .inl (cI, 16, .inl lv))] := hD.sub (ws' := [(y, .inr (4, [.int 1, .int (nI pn), .ref yp, .int (nI bn), .ref yb, .ref yr, .ref yl])), (yp, .inl (cI, 12, .inl pf)), (yb, .inl (cI, 10, .inl bs)), (yr, .inl (cI, 10, .inl br)), (yl, .inl (cI, 16, .inl lv))]) [4, 0, 1, 2, 3] (by decide) rfl
    generalize H1 = H at hP hS ⊢
    have hP9 : va_P G vwCl [(y, .inr (4, [.int (nI (if ¬ (0 ≤ i ∧ i < nI (2 ^ bn)) then 1 else 0)), .int (nI pn), .ref yp, .int (nI (bv_if (if ¬ (0 ≤ i ∧ i < nI (2 ^ bn)) then 1 else 0) ((bv_rm i.toNatClampNeg bs br mt bn).1) bn)), .ref yb, .ref yr, .ref yl])), (yp, .inl (cI, 12, .inl pf)), (yb, .inl (cI, 10, .inl (bv_if (if ¬ (0 ≤ i ∧ i < nI (2 ^ bn)) then 1 else 0) ((bv_rm i.toNatClampNeg bs br mt bn).2.1) bs))), (yr, .inl (cI, 10, .inl (bv_if (if ¬ (0 ≤ i ∧ i < nI (2 ^ bn)) then 1 else 0) ((bv_rm i.toNatClampNeg bs br mt bn).2.2.1) br))), (yl, .inl (cI, 16, .inl lv))] H := by rw [if_pos hbad]; exact hP
    exact W.iret (pc := 18) (v := 0) hx hb hr (fun T8 hT8 hW8 => ⟨⟨0, (), rfl, (by rw [if_pos hbad]; rfl), bv_hP hT8 hP9⟩, hS.F hT8⟩) hS.2.2 dX4_giveUp_18
set_option maxHeartbeats 4000000 in
set_option maxRecDepth 100000 in
theorem m_X4_worlds (l : Launch) (G : va_G) (cI : ClassId) (sz : Nat) (y yp yb yr yl pn bn : Nat) (th : Int32) (pf bs br lv : Nat → Int32) (i : Int32) (hp : pn ≤ 12) (hn : bn ≤ 10) : Met l yX4_worlds wsX4_worlds ({ frames := 2, cells := 0, slots := 0, locals := 44 }) (bv_P [.ref y, .int i] G cI (fun H => H.size = sz ∧ va_P G vwCl [(y, .inr (4, [.int th, .int (nI pn), .ref yp, .int (nI bn), .ref yb, .ref yr, .ref yl])), (yp, .inl (cI, 12, .inl pf)), (yb, .inl (cI, 10, .inl bs)), (yr, .inl (cI, 10, .inl br)), (yl, .inl (cI, 16, .inl lv))] H ∧ va_D (fun _ => True) [(y, .inr (4, [.int th, .int (nI pn), .ref yp, .int (nI bn), .ref yb, .ref yr, .ref yl])), (yp, .inl (cI, 12, .inl pf)), (yb, .inl (cI, 10, .inl bs)), (yr, .inl (cI, 10, .inl br)), (yl, .inl (cI, 16, .inl lv))])) (va_Qi (fun (r9 : Int32) (_ : Unit) => r9 = (bv_if (if ¬ (0 ≤ i ∧ i < nI (2 ^ bn)) then 1 else 0) (bv_wi bs i.toNatClampNeg bn) 0)) (fun (_ : Unit) (T9 : State) => va_P G vwCl [(y, .inr (4, [.int (nI (if ¬ (0 ≤ i ∧ i < nI (2 ^ bn)) then 1 else 0)), .int (nI pn), .ref yp, .int (nI bn), .ref yb, .ref yr, .ref yl])), (yp, .inl (cI, 12, .inl pf)), (yb, .inl (cI, 10, .inl bs)), (yr, .inl (cI, 10, .inl br)), (yl, .inl (cI, 16, .inl lv))] T9.heap) (va_A [(y, .inr (4, [.int th, .int (nI pn), .ref yp, .int (nI bn), .ref yb, .ref yr, .ref yl])), (yp, .inl (cI, 12, .inl pf)), (yb, .inl (cI, 10, .inl bs)), (yr, .inl (cI, 10, .inl br)), (yl, .inl (cI, 16, .inl lv))] sz)) 0 0 (va_A [(y, .inr (4, [.int th, .int (nI pn), .ref yp, .int (nI bn), .ref yb, .ref yr, .ref yl])), (yp, .inl (cI, 12, .inl pf)), (yb, .inl (cI, 10, .inl bs)), (yr, .inl (cI, 10, .inl br)), (yl, .inl (cI, 16, .inl lv))] sz) := by
  refine Met.ofW (cc := cX4_worlds) (maxL := 2) (ret := (some .int)) (by decide) rfl ?_
  intro p e s m args below meth c s₁ B hml hv
  obtain ⟨rfl, ⟨hsz, hP, hD0⟩, hE⟩ := hv
  have hx := B.exec
  have hb := B.bytes
  have hr := B.returns
  have hts := atoms_spec (ws := wsX4_worlds) B.pre
  have hown : s.vm.findClass RX4 = some m.cls := findClass_of_methodNamed B.named
  have hlocks := B.notSynchronized
  have hK := hE.1
  have hw0 := hts (.fieldLink RX4 22 "BeliefReviserModel" "thrown" "I") (List.mem_of_getElem? (i := 1) rfl)
  have hw1 : ∀ w ∈ u_ws RX4 TX4 7, w ∈ wsX4_worlds := by decide +kernel
  subst hsz
  have hD := hD0.self (sz := s.heap.size)
  generalize hAe : va_A [(y, .inr (4, [.int th, .int (nI pn), .ref yp, .int (nI bn), .ref yb, .ref yr, .ref yl])), (yp, .inl (cI, 12, .inl pf)), (yb, .inl (cI, 10, .inl bs)), (yr, .inl (cI, 10, .inl br)), (yl, .inl (cI, 16, .inl lv))] s.heap.size = A at hD ⊢
  have hA : ∀ q : Nat, s.heap.size ≤ q → A q := fun q h => by rw [← hAe]; exact Or.inr h
  have hS : va_S A s.heap s.heap [] := va_S.rf
  have hP : va_P G vwCl [(y, .inr (4, [.int th, .int (nI pn), .ref yp, .int (nI bn), .ref yb, .ref yr, .ref yl])), (yp, .inl (cI, 12, .inl pf)), (yb, .inl (cI, 10, .inl bs)), (yr, .inl (cI, 10, .inl br)), (yl, .inl (cI, 16, .inl lv))] s.heap := hP
  have hl := lv_entry ([.ref y, .int i]) (n := 2) (Nat.le_of_ble_eq_true rfl)
  rw [lg_entry_eq]
  generalize (lg_sl ([.ref y, .int i]) ++ List.replicate (2 - (lg_sl ([.ref y, .int i])).length) Slot.unset).toArray = ls at hl ⊢
  have hl : lv_has ls 2 [(0, .ref y), (1, .int i)] := hl
  refine lv_aload_n (pc := 0) hx hb dX4_worlds_0 rfl (lv_at hl 0 rfl) ?_
  refine lv_iconst (pc := 1) (v := 0) hx hb dX4_worlds_1 (by decide) ?_
  refine va_put (pc := 2) (D := G) (ci := 4) (v := .int 0) (ty := .int) (C := RX4) (T := TX4) (N := 7) hx hb hts hw1 tyX4 tyX4_ok nmX4 hown hK hP hD hS 0 rfl rfl 0 (by decide) hw0 (fun _ h9 => h9) rfl (by decide +kernel) rfl rfl (Nat.le_of_ble_eq_true rfl) dX4_worlds_2 (fun H locs hP hD hS => ?_)
  have hP : va_P G vwCl [(y, .inr (4, [.int 0, .int (nI pn), .ref yp, .int (nI bn), .ref yb, .ref yr, .ref yl])), (yp, .inl (cI, 12, .inl pf)), (yb, .inl (cI, 10, .inl bs)), (yr, .inl (cI, 10, .inl br)), (yl, .inl (cI, 16, .inl lv))] H := hP
  have hD : va_D A [(y, .inr (4, [.int 0, .int (nI pn), .ref yp, .int (nI bn), .ref yb, .ref yr, .ref yl])), (yp, .inl (cI, 12, .inl pf)), (yb, .inl (cI, 10, .inl bs)), (yr, .inl (cI, 10, .inl br)), (yl, .inl (cI, 16, .inl lv))] := hD
  refine lv_aload_n (pc := 5) hx hb dX4_worlds_5 rfl (lv_at hl 0 rfl) ?_
  refine lv_iload_n (pc := 6) hx hb dX4_worlds_6 rfl (lv_at hl 1 rfl) ?_
  have hPc := hP.sub (ws' := [(y, .inr (4, [.int 0, .int (nI pn), .ref yp, .int (nI bn), .ref yb, .ref yr, .ref yl]))]) [0] rfl
  refine bv_cSi (pc := 7) (E' := (bv_b (decide (0 ≤ i ∧ i < nI (2 ^ bn))))) (va_runV (As := [.int i]) (rest := []) ⟨hx, hb, hml, hown, hts⟩ (m_X4_isSet l G cI y yp yb yr yl bn 0 (nI pn) i (by first | assumption | omega)) (cwV 1 hts gX4_worlds_X4_isSet rfl rfl rfl (by decide +kernel) ⟨Nat.le_of_ble_eq_true rfl, Nat.le_of_ble_eq_true rfl⟩) (bv_pV hE hPc (va_recv hK hP (ci := 4) (q0 := 0) rfl rfl)) rfl rfl hl.1 rfl (lv_room (Nat.le_of_ble_eq_true rfl)) dX4_worlds_7 ⟨Nat.le_of_ble_eq_true rfl, Nat.le_of_ble_eq_true rfl⟩) rfl ?_
  refine lv_if_eq (pc := 10) (tgt := 21) hx hb dX4_worlds_10 (by decide) (fun c10_3 => ?_) (fun c10_3 => ?_)
  · have hbad := of_decide_eq_false (bv_b0.mp c10_3)
    refine lv_aload_n (pc := 21) hx hb dX4_worlds_21 rfl (lv_at hl 0 rfl) ?_
    refine lv_iconst (pc := 22) (v := 1) hx hb dX4_worlds_22 (by decide) ?_
    have hPc := hP.sub (ws' := [(y, .inr (4, [.int 0, .int (nI pn), .ref yp, .int (nI bn), .ref yb, .ref yr, .ref yl]))]) [0] rfl
    have hDc := hD.sub (ws' := [(y, .inr (4, [.int 0, .int (nI pn), .ref yp, .int (nI bn), .ref yb, .ref yr, .ref yl]))]) [0] (by decide) rfl
    have hFc := va_free (wc := [(y, .inr (4, [.int 0, .int (nI pn), .ref yp, .int (nI bn), .ref yb, .ref yr, .ref yl]))]) hD hS hA [0] rfl
    refine bv_cMi (pc := 23) (E' := 0) (va_runV (As := [.int 1]) (rest := []) ⟨hx, hb, hml, hown, hts⟩ (m_X4_no l G cI H.size y yp yb yr yl 0 (nI pn) (nI bn) 1 ) (cwV 1 hts gX4_worlds_X4_no rfl rfl rfl (by decide +kernel) ⟨Nat.le_of_ble_eq_true rfl, Nat.le_of_ble_eq_true rfl⟩) (bv_pV hE ⟨rfl, hPc, hDc.weaken (fun _ _ _ _ => trivial)⟩ (va_recv hK hP (ci := 4) (q0 := 0) rfl rfl)) rfl rfl hl.1 rfl (lv_room (Nat.le_of_ble_eq_true rfl)) dX4_worlds_23 ⟨Nat.le_of_ble_eq_true rfl, Nat.le_of_ble_eq_true rfl⟩) hS (fun q _ h => hFc q h) hFc rfl (fun t8 H1 locs ht8 hvm8 hB8 hz1 hk1 hS => ?_)
    have hP1 : va_P G vwCl [(y, .inr (4, [.int 1, .int (nI pn), .ref yp, .int (nI bn), .ref yb, .ref yr, .ref yl]))] H1 := by rw [← ht8]; exact hB8
    obtain ⟨hP, hD⟩ := va_join (wr := [(yp, .inl (cI, 12, .inl pf)), (yb, .inl (cI, 10, .inl bs)), (yr, .inl (cI, 10, .inl br)), (yl, .inl (cI, 16, .inl lv))]) (w1 := [(y, .inr (4, [.int 1, .int (nI pn), .ref yp, .int (nI bn), .ref yb, .ref yr, .ref yl]))]) hP hD [0] [1, 2, 3, 4] rfl rfl (by decide) (by decide) hk1 hFc hP1 (bv_Dm (w0 := [(y, .inr (4, [.int 0, .int (nI pn), .ref yp, .int (nI bn), .ref yb, .ref yr, .ref yl]))]) [y] rfl rfl hDc.self)
    have hP : va_P G vwCl [(y, .inr (4, [.int 1, .int (nI pn), .ref yp, .int (nI bn), .ref yb, .ref yr, .ref yl])), (yp, .inl (cI, 12, .inl pf)), (yb, .inl (cI, 10, .inl bs)), (yr, .inl (cI, 10, .inl br)), (yl, .inl (cI, 16, .inl lv))] H1 := hP.sub (ws' := [(y, .inr (4, [.int 1, .int (nI pn), .ref yp, .int (nI bn), .ref yb, .ref yr, .ref yl])), (yp, .inl (cI, 12, .inl pf)), (yb, .inl (cI, 10, .inl bs)), (yr, .inl (cI, 10, .inl br)), (yl, .inl (cI, 16, .inl lv))]) [4, 0, 1, 2, 3] rfl
    have hD : va_D A [(y, .inr (4, [.int 1, .int (nI pn), .ref yp, .int (nI bn), .ref yb, .ref yr, .ref yl])), (yp, .inl (cI, 12, .inl pf)), (yb, .inl (cI, 10, .inl bs)), (yr, .inl (cI, 10, .inl br)), (yl, .inl (cI, 16, .inl lv))] := hD.sub (ws' := [(y, .inr (4, [.int 1, .int (nI pn), .ref yp, .int (nI bn), .ref yb, .ref yr, .ref yl])), (yp, .inl (cI, 12, .inl pf)), (yb, .inl (cI, 10, .inl bs)), (yr, .inl (cI, 10, .inl br)), (yl, .inl (cI, 16, .inl lv))]) [4, 0, 1, 2, 3] (by decide) rfl
    generalize H1 = H at hP hS ⊢
    have hP9 : va_P G vwCl [(y, .inr (4, [.int (nI (if ¬ (0 ≤ i ∧ i < nI (2 ^ bn)) then 1 else 0)), .int (nI pn), .ref yp, .int (nI bn), .ref yb, .ref yr, .ref yl])), (yp, .inl (cI, 12, .inl pf)), (yb, .inl (cI, 10, .inl bs)), (yr, .inl (cI, 10, .inl br)), (yl, .inl (cI, 16, .inl lv))] H := by rw [if_pos hbad]; exact hP
    exact W.iret (pc := 26) (v := 0) hx hb hr (fun T8 hT8 hW8 => ⟨⟨0, (), rfl, (by rw [if_pos hbad]; rfl), bv_hP hT8 hP9⟩, hS.F hT8⟩) hS.2.2 dX4_worlds_26
  · have hck0 := of_decide_eq_true (bv_b1.mp c10_3)
    obtain ⟨t, ht, rfl⟩ := bv_ix hck0.1 hck0.2 (by have := bv_p10 hn; omega)
    refine lv_aload_n (pc := 13) hx hb dX4_worlds_13 rfl (lv_at hl 0 rfl) ?_
    refine lv_iload_n (pc := 14) hx hb dX4_worlds_14 rfl (lv_at hl 1 rfl) ?_
    have hPc := hP.sub (ws' := [(y, .inr (4, [.int 0, .int (nI pn), .ref yp, .int (nI bn), .ref yb, .ref yr, .ref yl])), (yb, .inl (cI, 10, .inl bs)), (yr, .inl (cI, 10, .inl br))]) [0, 2, 3] rfl
    refine bv_cSi (pc := 15) (E' := (bv_wi bs t bn)) (va_runV (As := [.int (nI t)]) (rest := []) ⟨hx, hb, hml, hown, hts⟩ (m_X4_worldsIn l G cI y yp yb yr yl bn 0 (nI pn) bs br t hn ht) (cwV 1 hts gX4_worlds_X4_worldsIn rfl rfl rfl (by decide +kernel) ⟨Nat.le_of_ble_eq_true rfl, Nat.le_of_ble_eq_true rfl⟩) (bv_pV hE hPc (va_recv hK hP (ci := 4) (q0 := 0) rfl rfl)) rfl rfl hl.1 rfl (lv_room (Nat.le_of_ble_eq_true rfl)) dX4_worlds_15 ⟨Nat.le_of_ble_eq_true rfl, Nat.le_of_ble_eq_true rfl⟩) rfl ?_
    refine lv_goto (pc := 18) (tgt := 26) hx hb dX4_worlds_18 (by decide) ?_
    have hP9 : va_P G vwCl [(y, .inr (4, [.int (nI (if ¬ (0 ≤ (nI t) ∧ (nI t) < nI (2 ^ bn)) then 1 else 0)), .int (nI pn), .ref yp, .int (nI bn), .ref yb, .ref yr, .ref yl])), (yp, .inl (cI, 12, .inl pf)), (yb, .inl (cI, 10, .inl bs)), (yr, .inl (cI, 10, .inl br)), (yl, .inl (cI, 16, .inl lv))] H := by rw [if_neg (not_not_intro hck0)]; exact hP
    exact W.iret (pc := 26) (v := (bv_wi bs t bn)) hx hb hr (fun T8 hT8 hW8 => ⟨⟨(bv_wi bs t bn), (), rfl, (by rw [if_neg (not_not_intro hck0), nI_clamp (by have := bv_p10 hn; omega)]; rfl), bv_hP hT8 hP9⟩, hS.F hT8⟩) hS.2.2 dX4_worlds_26
set_option maxHeartbeats 4000000 in
set_option maxRecDepth 100000 in
theorem m_X4_entails (l : Launch) (G : va_G) (cI : ClassId) (sz : Nat) (y yp yb yr yl pn bn : Nat) (th : Int32) (pf bs br lv : Nat → Int32) (i : Int32) (hp : pn ≤ 12) (hn : bn ≤ 10) : Met l yX4_entails wsX4_entails ({ frames := 3, cells := 0, slots := 0, locals := 66 }) (bv_P [.ref y, .int i] G cI (fun H => H.size = sz ∧ va_P G vwCl [(y, .inr (4, [.int th, .int (nI pn), .ref yp, .int (nI bn), .ref yb, .ref yr, .ref yl])), (yp, .inl (cI, 12, .inl pf)), (yb, .inl (cI, 10, .inl bs)), (yr, .inl (cI, 10, .inl br)), (yl, .inl (cI, 16, .inl lv))] H ∧ va_D (fun _ => True) [(y, .inr (4, [.int th, .int (nI pn), .ref yp, .int (nI bn), .ref yb, .ref yr, .ref yl])), (yp, .inl (cI, 12, .inl pf)), (yb, .inl (cI, 10, .inl bs)), (yr, .inl (cI, 10, .inl br)), (yl, .inl (cI, 16, .inl lv))])) (va_Qi (fun (r9 : Int32) (_ : Unit) => r9 = (bv_if (if ¬ (1 ≤ pn) then 1 else (if ¬ (0 ≤ i ∧ i < nI (2 ^ bn)) then 2 else 0)) (bv_b (bv_de bs bn i.toNatClampNeg (pf (pn - 1)))) 0)) (fun (_ : Unit) (T9 : State) => va_P G vwCl [(y, .inr (4, [.int (nI (if ¬ (1 ≤ pn) then 1 else (if ¬ (0 ≤ i ∧ i < nI (2 ^ bn)) then 2 else 0))), .int (nI pn), .ref yp, .int (nI bn), .ref yb, .ref yr, .ref yl])), (yp, .inl (cI, 12, .inl pf)), (yb, .inl (cI, 10, .inl bs)), (yr, .inl (cI, 10, .inl br)), (yl, .inl (cI, 16, .inl lv))] T9.heap) (va_A [(y, .inr (4, [.int th, .int (nI pn), .ref yp, .int (nI bn), .ref yb, .ref yr, .ref yl])), (yp, .inl (cI, 12, .inl pf)), (yb, .inl (cI, 10, .inl bs)), (yr, .inl (cI, 10, .inl br)), (yl, .inl (cI, 16, .inl lv))] sz)) 0 0 (va_A [(y, .inr (4, [.int th, .int (nI pn), .ref yp, .int (nI bn), .ref yb, .ref yr, .ref yl])), (yp, .inl (cI, 12, .inl pf)), (yb, .inl (cI, 10, .inl bs)), (yr, .inl (cI, 10, .inl br)), (yl, .inl (cI, 16, .inl lv))] sz) := by
  refine Met.ofW (cc := cX4_entails) (maxL := 2) (ret := (some .boolean)) (by decide) rfl ?_
  intro p e s m args below meth c s₁ B hml hv
  obtain ⟨rfl, ⟨hsz, hP, hD0⟩, hE⟩ := hv
  have hx := B.exec
  have hb := B.bytes
  have hr := B.returns
  have hts := atoms_spec (ws := wsX4_entails) B.pre
  have hown : s.vm.findClass RX4 = some m.cls := findClass_of_methodNamed B.named
  have hlocks := B.notSynchronized
  have hK := hE.1
  have hw0 := hts (.fieldLink RX4 33 "BeliefReviserModel" "high" "I") (List.mem_of_getElem? (i := 1) rfl)
  have hw1 : ∀ w ∈ u_ws RX4 TX4 7, w ∈ wsX4_entails := by decide +kernel
  have hw2 := hts (.fieldLink RX4 22 "BeliefReviserModel" "thrown" "I") (List.mem_of_getElem? (i := 2) rfl)
  subst hsz
  have hD := hD0.self (sz := s.heap.size)
  generalize hAe : va_A [(y, .inr (4, [.int th, .int (nI pn), .ref yp, .int (nI bn), .ref yb, .ref yr, .ref yl])), (yp, .inl (cI, 12, .inl pf)), (yb, .inl (cI, 10, .inl bs)), (yr, .inl (cI, 10, .inl br)), (yl, .inl (cI, 16, .inl lv))] s.heap.size = A at hD ⊢
  have hA : ∀ q : Nat, s.heap.size ≤ q → A q := fun q h => by rw [← hAe]; exact Or.inr h
  have hS : va_S A s.heap s.heap [] := va_S.rf
  have hP : va_P G vwCl [(y, .inr (4, [.int th, .int (nI pn), .ref yp, .int (nI bn), .ref yb, .ref yr, .ref yl])), (yp, .inl (cI, 12, .inl pf)), (yb, .inl (cI, 10, .inl bs)), (yr, .inl (cI, 10, .inl br)), (yl, .inl (cI, 16, .inl lv))] s.heap := hP
  have hl := lv_entry ([.ref y, .int i]) (n := 2) (Nat.le_of_ble_eq_true rfl)
  rw [lg_entry_eq]
  generalize (lg_sl ([.ref y, .int i]) ++ List.replicate (2 - (lg_sl ([.ref y, .int i])).length) Slot.unset).toArray = ls at hl ⊢
  have hl : lv_has ls 2 [(0, .ref y), (1, .int i)] := hl
  refine lv_aload_n (pc := 0) hx hb dX4_entails_0 rfl (lv_at hl 0 rfl) ?_
  refine lv_aload_n (pc := 1) hx hb dX4_entails_1 rfl (lv_at hl 0 rfl) ?_
  refine va_get (pc := 2) (D := G) (ci := 4) (v := .int (nI pn)) (C := RX4) (T := TX4) (N := 7) hx hb hts hw1 hown hK hP 0 rfl rfl 1 (by decide) hw0 (fun _ h9 => h9) rfl dX4_entails_2 ?_
  refine lv_if_ne (pc := 5) (tgt := 12) hx hb dX4_entails_5 (by decide) (fun c5_1 => ?_) (fun c5_1 => ?_)
  · have hck0 : 1 ≤ pn := by
      by_cases h : pn = 0
      · exact absurd (by rw [h]; rfl) c5_1
      · omega
    refine lv_aload_n (pc := 12) hx hb dX4_entails_12 rfl (lv_at hl 0 rfl) ?_
    refine lv_iload_n (pc := 13) hx hb dX4_entails_13 rfl (lv_at hl 1 rfl) ?_
    have hPc := hP.sub (ws' := [(y, .inr (4, [.int th, .int (nI pn), .ref yp, .int (nI bn), .ref yb, .ref yr, .ref yl]))]) [0] rfl
    refine bv_cSi (pc := 14) (E' := (bv_b (decide (0 ≤ i ∧ i < nI (2 ^ bn))))) (va_runV (As := [.int i]) (rest := [.ref y]) ⟨hx, hb, hml, hown, hts⟩ (m_X4_isSet l G cI y yp yb yr yl bn th (nI pn) i (by first | assumption | omega)) (cwV 1 hts gX4_entails_X4_isSet rfl rfl rfl (by decide +kernel) ⟨Nat.le_of_ble_eq_true rfl, Nat.le_of_ble_eq_true rfl⟩) (bv_pV hE hPc (va_recv hK hP (ci := 4) (q0 := 0) rfl rfl)) rfl rfl hl.1 rfl (lv_room (Nat.le_of_ble_eq_true rfl)) dX4_entails_14 ⟨Nat.le_of_ble_eq_true rfl, Nat.le_of_ble_eq_true rfl⟩) rfl ?_
    refine lv_if_eq (pc := 17) (tgt := 24) hx hb dX4_entails_17 (by decide) (fun c17_4 => ?_) (fun c17_4 => ?_)
    · have hbad := of_decide_eq_false (bv_b0.mp c17_4)
      refine lv_iconst (pc := 24) (v := 2) hx hb dX4_entails_24 (by decide) ?_
      refine va_put (pc := 25) (D := G) (ci := 4) (v := .int 2) (ty := .int) (C := RX4) (T := TX4) (N := 7) hx hb hts hw1 tyX4 tyX4_ok nmX4 hown hK hP hD hS 0 rfl rfl 0 (by decide) hw2 (fun _ h9 => h9) rfl (by decide +kernel) rfl rfl (Nat.le_of_ble_eq_true rfl) dX4_entails_25 (fun H locs hP hD hS => ?_)
      have hP : va_P G vwCl [(y, .inr (4, [.int 2, .int (nI pn), .ref yp, .int (nI bn), .ref yb, .ref yr, .ref yl])), (yp, .inl (cI, 12, .inl pf)), (yb, .inl (cI, 10, .inl bs)), (yr, .inl (cI, 10, .inl br)), (yl, .inl (cI, 16, .inl lv))] H := hP
      have hD : va_D A [(y, .inr (4, [.int 2, .int (nI pn), .ref yp, .int (nI bn), .ref yb, .ref yr, .ref yl])), (yp, .inl (cI, 12, .inl pf)), (yb, .inl (cI, 10, .inl bs)), (yr, .inl (cI, 10, .inl br)), (yl, .inl (cI, 16, .inl lv))] := hD
      refine lv_aload_n (pc := 28) hx hb dX4_entails_28 rfl (lv_at hl 0 rfl) ?_
      refine va_get (pc := 29) (D := G) (ci := 4) (v := .int 2) (C := RX4) (T := TX4) (N := 7) hx hb hts hw1 hown hK hP 0 rfl rfl 0 (by decide) hw2 (fun _ h9 => h9) rfl dX4_entails_29 ?_
      refine lv_if_ne (pc := 32) (tgt := 52) hx hb dX4_entails_32 (by decide) (fun c32_5 => ?_) (fun c32_5 => ?_)
      · refine lv_iconst (pc := 52) (v := 0) hx hb dX4_entails_52 (by decide) ?_
        have hP9 : va_P G vwCl [(y, .inr (4, [.int (nI (if ¬ (1 ≤ pn) then 1 else (if ¬ (0 ≤ i ∧ i < nI (2 ^ bn)) then 2 else 0))), .int (nI pn), .ref yp, .int (nI bn), .ref yb, .ref yr, .ref yl])), (yp, .inl (cI, 12, .inl pf)), (yb, .inl (cI, 10, .inl bs)), (yr, .inl (cI, 10, .inl br)), (yl, .inl (cI, 16, .inl lv))] H := by rw [if_neg (not_not_intro hck0), if_pos hbad]; exact hP
        exact W.zret (pc := 53) (v := 0) hx hb hr rfl (fun T8 hT8 hW8 => ⟨⟨0, (), rfl, (by rw [if_neg (not_not_intro hck0), if_pos hbad]; rfl), bv_hP hT8 hP9⟩, hS.F hT8⟩) hS.2.2 dX4_entails_53
      · exact absurd c32_5 (by decide)
    · have hck1 := of_decide_eq_true (bv_b1.mp c17_4)
      obtain ⟨t, ht, rfl⟩ := bv_ix hck1.1 hck1.2 (by have := bv_p10 hn; omega)
      refine lv_iconst (pc := 20) (v := 0) hx hb dX4_entails_20 (by decide) ?_
      refine lv_goto (pc := 21) (tgt := 25) hx hb dX4_entails_21 (by decide) ?_
      refine va_put (pc := 25) (D := G) (ci := 4) (v := .int 0) (ty := .int) (C := RX4) (T := TX4) (N := 7) hx hb hts hw1 tyX4 tyX4_ok nmX4 hown hK hP hD hS 0 rfl rfl 0 (by decide) hw2 (fun _ h9 => h9) rfl (by decide +kernel) rfl rfl (Nat.le_of_ble_eq_true rfl) dX4_entails_25 (fun H locs hP hD hS => ?_)
      have hP : va_P G vwCl [(y, .inr (4, [.int 0, .int (nI pn), .ref yp, .int (nI bn), .ref yb, .ref yr, .ref yl])), (yp, .inl (cI, 12, .inl pf)), (yb, .inl (cI, 10, .inl bs)), (yr, .inl (cI, 10, .inl br)), (yl, .inl (cI, 16, .inl lv))] H := hP
      have hD : va_D A [(y, .inr (4, [.int 0, .int (nI pn), .ref yp, .int (nI bn), .ref yb, .ref yr, .ref yl])), (yp, .inl (cI, 12, .inl pf)), (yb, .inl (cI, 10, .inl bs)), (yr, .inl (cI, 10, .inl br)), (yl, .inl (cI, 16, .inl lv))] := hD
      refine lv_aload_n (pc := 28) hx hb dX4_entails_28 rfl (lv_at hl 0 rfl) ?_
      refine va_get (pc := 29) (D := G) (ci := 4) (v := .int 0) (C := RX4) (T := TX4) (N := 7) hx hb hts hw1 hown hK hP 0 rfl rfl 0 (by decide) hw2 (fun _ h9 => h9) rfl dX4_entails_29 ?_
      refine lv_if_ne (pc := 32) (tgt := 52) hx hb dX4_entails_32 (by decide) (fun c32_6 => ?_) (fun c32_6 => ?_)
      · exact absurd rfl c32_6
      · refine lv_aload_n (pc := 35) hx hb dX4_entails_35 rfl (lv_at hl 0 rfl) ?_
        refine lv_iload_n (pc := 36) hx hb dX4_entails_36 rfl (lv_at hl 1 rfl) ?_
        refine lv_aload_n (pc := 37) hx hb dX4_entails_37 rfl (lv_at hl 0 rfl) ?_
        refine lv_iconst (pc := 38) (v := 0) hx hb dX4_entails_38 (by decide) ?_
        have hPc := hP.sub (ws' := [(y, .inr (4, [.int 0, .int (nI pn), .ref yp, .int (nI bn), .ref yb, .ref yr, .ref yl])), (yp, .inl (cI, 12, .inl pf))]) [0, 1] rfl
        refine bv_cSi (pc := 39) (E' := (pf (pn - 1))) (va_runV (As := [.int 0]) (rest := [.int (nI t), .ref y]) ⟨hx, hb, hml, hown, hts⟩ (m_X4_top l G cI y yp yb yr yl pn 0 (nI bn) pf 0 hck0 hp) (cwV 1 hts gX4_entails_X4_top rfl rfl rfl (by decide +kernel) ⟨Nat.le_of_ble_eq_true rfl, Nat.le_of_ble_eq_true rfl⟩) (bv_pV hE hPc (va_recv hK hP (ci := 4) (q0 := 0) rfl rfl)) rfl rfl hl.1 rfl (lv_room (Nat.le_of_ble_eq_true rfl)) dX4_entails_39 ⟨Nat.le_of_ble_eq_true rfl, Nat.le_of_ble_eq_true rfl⟩) (by rw [Nat.sub_zero]) ?_
        have hPc := hP.sub (ws' := [(y, .inr (4, [.int 0, .int (nI pn), .ref yp, .int (nI bn), .ref yb, .ref yr, .ref yl])), (yb, .inl (cI, 10, .inl bs)), (yr, .inl (cI, 10, .inl br))]) [0, 2, 3] rfl
        refine bv_cSi (pc := 42) (E' := (bv_b (bv_de bs bn t (pf (pn - 1))))) (va_runV (As := [.int (nI t), .int (pf (pn - 1))]) (rest := []) ⟨hx, hb, hml, hown, hts⟩ (m_X4_doEntail l G cI y yp yb yr yl bn 0 (nI pn) bs br t (pf (pn - 1)) hn ht) (cwV 2 hts gX4_entails_X4_doEntail rfl rfl rfl (by decide +kernel) ⟨Nat.le_of_ble_eq_true rfl, Nat.le_of_ble_eq_true rfl⟩) (bv_pV hE hPc (va_recv hK hP (ci := 4) (q0 := 0) rfl rfl)) rfl rfl hl.1 rfl (lv_room (Nat.le_of_ble_eq_true rfl)) dX4_entails_42 ⟨Nat.le_of_ble_eq_true rfl, Nat.le_of_ble_eq_true rfl⟩) rfl ?_
        refine lv_if_eq (pc := 45) (tgt := 52) hx hb dX4_entails_45 (by decide) (fun c45_11 => ?_) (fun c45_11 => ?_)
        · have h3 := bv_b0.mp c45_11
          refine lv_iconst (pc := 52) (v := 0) hx hb dX4_entails_52 (by decide) ?_
          have hP9 : va_P G vwCl [(y, .inr (4, [.int (nI (if ¬ (1 ≤ pn) then 1 else (if ¬ (0 ≤ (nI t) ∧ (nI t) < nI (2 ^ bn)) then 2 else 0))), .int (nI pn), .ref yp, .int (nI bn), .ref yb, .ref yr, .ref yl])), (yp, .inl (cI, 12, .inl pf)), (yb, .inl (cI, 10, .inl bs)), (yr, .inl (cI, 10, .inl br)), (yl, .inl (cI, 16, .inl lv))] H := by rw [if_neg (not_not_intro hck0), if_neg (not_not_intro hck1)]; exact hP
          exact W.zret (pc := 53) (v := 0) hx hb hr rfl (fun T8 hT8 hW8 => ⟨⟨0, (), rfl, (by rw [if_neg (not_not_intro hck0), if_neg (not_not_intro hck1), nI_clamp (by have := bv_p10 hn; omega), h3]; rfl), bv_hP hT8 hP9⟩, hS.F hT8⟩) hS.2.2 dX4_entails_53
        · have h3 := bv_b1.mp c45_11
          refine lv_iconst (pc := 48) (v := 1) hx hb dX4_entails_48 (by decide) ?_
          refine lv_goto (pc := 49) (tgt := 53) hx hb dX4_entails_49 (by decide) ?_
          have hP9 : va_P G vwCl [(y, .inr (4, [.int (nI (if ¬ (1 ≤ pn) then 1 else (if ¬ (0 ≤ (nI t) ∧ (nI t) < nI (2 ^ bn)) then 2 else 0))), .int (nI pn), .ref yp, .int (nI bn), .ref yb, .ref yr, .ref yl])), (yp, .inl (cI, 12, .inl pf)), (yb, .inl (cI, 10, .inl bs)), (yr, .inl (cI, 10, .inl br)), (yl, .inl (cI, 16, .inl lv))] H := by rw [if_neg (not_not_intro hck0), if_neg (not_not_intro hck1)]; exact hP
          exact W.zret (pc := 53) (v := 1) hx hb hr rfl (fun T8 hT8 hW8 => ⟨⟨1, (), rfl, (by rw [if_neg (not_not_intro hck0), if_neg (not_not_intro hck1), nI_clamp (by have := bv_p10 hn; omega), h3]; rfl), bv_hP hT8 hP9⟩, hS.F hT8⟩) hS.2.2 dX4_entails_53
  · have hbad : ¬ 1 ≤ pn := by
      have h : pn = 0 := (bv_pn0 (by omega)).mp c5_1
      omega
    refine lv_iconst (pc := 8) (v := 1) hx hb dX4_entails_8 (by decide) ?_
    refine lv_goto (pc := 9) (tgt := 25) hx hb dX4_entails_9 (by decide) ?_
    refine va_put (pc := 25) (D := G) (ci := 4) (v := .int 1) (ty := .int) (C := RX4) (T := TX4) (N := 7) hx hb hts hw1 tyX4 tyX4_ok nmX4 hown hK hP hD hS 0 rfl rfl 0 (by decide) hw2 (fun _ h9 => h9) rfl (by decide +kernel) rfl rfl (Nat.le_of_ble_eq_true rfl) dX4_entails_25 (fun H locs hP hD hS => ?_)
    have hP : va_P G vwCl [(y, .inr (4, [.int 1, .int (nI pn), .ref yp, .int (nI bn), .ref yb, .ref yr, .ref yl])), (yp, .inl (cI, 12, .inl pf)), (yb, .inl (cI, 10, .inl bs)), (yr, .inl (cI, 10, .inl br)), (yl, .inl (cI, 16, .inl lv))] H := hP
    have hD : va_D A [(y, .inr (4, [.int 1, .int (nI pn), .ref yp, .int (nI bn), .ref yb, .ref yr, .ref yl])), (yp, .inl (cI, 12, .inl pf)), (yb, .inl (cI, 10, .inl bs)), (yr, .inl (cI, 10, .inl br)), (yl, .inl (cI, 16, .inl lv))] := hD
    refine lv_aload_n (pc := 28) hx hb dX4_entails_28 rfl (lv_at hl 0 rfl) ?_
    refine va_get (pc := 29) (D := G) (ci := 4) (v := .int 1) (C := RX4) (T := TX4) (N := 7) hx hb hts hw1 hown hK hP 0 rfl rfl 0 (by decide) hw2 (fun _ h9 => h9) rfl dX4_entails_29 ?_
    refine lv_if_ne (pc := 32) (tgt := 52) hx hb dX4_entails_32 (by decide) (fun c32_12 => ?_) (fun c32_12 => ?_)
    · refine lv_iconst (pc := 52) (v := 0) hx hb dX4_entails_52 (by decide) ?_
      have hP9 : va_P G vwCl [(y, .inr (4, [.int (nI (if ¬ (1 ≤ pn) then 1 else (if ¬ (0 ≤ i ∧ i < nI (2 ^ bn)) then 2 else 0))), .int (nI pn), .ref yp, .int (nI bn), .ref yb, .ref yr, .ref yl])), (yp, .inl (cI, 12, .inl pf)), (yb, .inl (cI, 10, .inl bs)), (yr, .inl (cI, 10, .inl br)), (yl, .inl (cI, 16, .inl lv))] H := by rw [if_pos hbad]; exact hP
      exact W.zret (pc := 53) (v := 0) hx hb hr rfl (fun T8 hT8 hW8 => ⟨⟨0, (), rfl, (by rw [if_pos hbad]; rfl), bv_hP hT8 hP9⟩, hS.F hT8⟩) hS.2.2 dX4_entails_53
    · exact absurd c32_12 (by decide)
