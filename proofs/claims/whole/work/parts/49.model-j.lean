set_option maxHeartbeats 4000000 in
set_option maxRecDepth 100000 in
theorem m_X4_level (l : Launch) (G : va_G) (cI : ClassId) (sz : Nat) (y yp yb yr yl pn bn : Nat) (th : Int32) (pf bs br lv : Nat → Int32) (i : Int32) (hp : pn ≤ 12) (hn : bn ≤ 10) : Met l yX4_level wsX4_level ({ frames := 1, cells := 0, slots := 0, locals := 22 }) (bv_P [.ref y, .int i] G cI (fun H => H.size = sz ∧ va_P G vwCl [(y, .inr (4, [.int th, .int (nI pn), .ref yp, .int (nI bn), .ref yb, .ref yr, .ref yl])), (yp, .inl (cI, 12, .inl pf)), (yb, .inl (cI, 10, .inl bs)), (yr, .inl (cI, 10, .inl br)), (yl, .inl (cI, 16, .inl lv))] H ∧ va_D (fun _ => True) [(y, .inr (4, [.int th, .int (nI pn), .ref yp, .int (nI bn), .ref yb, .ref yr, .ref yl])), (yp, .inl (cI, 12, .inl pf)), (yb, .inl (cI, 10, .inl bs)), (yr, .inl (cI, 10, .inl br)), (yl, .inl (cI, 16, .inl lv))])) (va_Qi (fun (r9 : Int32) (_ : Unit) => r9 = (bv_if (if ¬ (0 ≤ i ∧ i ≤ 15) then 1 else 0) (lv i.toNatClampNeg) 0)) (fun (_ : Unit) (T9 : State) => va_P G vwCl [(y, .inr (4, [.int (nI (if ¬ (0 ≤ i ∧ i ≤ 15) then 1 else 0)), .int (nI pn), .ref yp, .int (nI bn), .ref yb, .ref yr, .ref yl])), (yp, .inl (cI, 12, .inl pf)), (yb, .inl (cI, 10, .inl bs)), (yr, .inl (cI, 10, .inl br)), (yl, .inl (cI, 16, .inl lv))] T9.heap) (va_A [(y, .inr (4, [.int th, .int (nI pn), .ref yp, .int (nI bn), .ref yb, .ref yr, .ref yl])), (yp, .inl (cI, 12, .inl pf)), (yb, .inl (cI, 10, .inl bs)), (yr, .inl (cI, 10, .inl br)), (yl, .inl (cI, 16, .inl lv))] sz)) 0 0 (va_A [(y, .inr (4, [.int th, .int (nI pn), .ref yp, .int (nI bn), .ref yb, .ref yr, .ref yl])), (yp, .inl (cI, 12, .inl pf)), (yb, .inl (cI, 10, .inl bs)), (yr, .inl (cI, 10, .inl br)), (yl, .inl (cI, 16, .inl lv))] sz) := by
  refine Met.ofW (cc := cX4_level) (maxL := 2) (ret := (some .int)) (by decide) rfl ?_
  intro p e s m args below meth c s₁ B hml hv
  obtain ⟨rfl, ⟨hsz, hP, hD0⟩, hE⟩ := hv
  have hx := B.exec
  have hb := B.bytes
  have hr := B.returns
  have hts := atoms_spec (ws := wsX4_level) B.pre
  have hown : s.vm.findClass RX4 = some m.cls := findClass_of_methodNamed B.named
  have hlocks := B.notSynchronized
  have hK := hE.1
  have hw0 := hts (.fieldLink RX4 22 "BeliefReviserModel" "thrown" "I") (List.mem_of_getElem? (i := 1) rfl)
  have hw1 : ∀ w ∈ u_ws RX4 TX4 7, w ∈ wsX4_level := by decide +kernel
  have hw2 := hts (.static yX4_isIn) (List.mem_of_getElem? (i := 4) rfl)
  have hw3 := hts (.fieldLink RX4 19 "BeliefReviserModel" "levels" "[I") (List.mem_of_getElem? (i := 2) rfl)
  subst hsz
  have hD := hD0.self (sz := s.heap.size)
  generalize hAe : va_A [(y, .inr (4, [.int th, .int (nI pn), .ref yp, .int (nI bn), .ref yb, .ref yr, .ref yl])), (yp, .inl (cI, 12, .inl pf)), (yb, .inl (cI, 10, .inl bs)), (yr, .inl (cI, 10, .inl br)), (yl, .inl (cI, 16, .inl lv))] s.heap.size = A at hD ⊢
  have hA : ∀ q : Nat, s.heap.size ≤ q → A q := fun q h => by rw [← hAe]; exact Or.inr h
  have hS : va_S A s.heap s.heap [] := va_S.rf
  have hP : va_P G vwCl [(y, .inr (4, [.int th, .int (nI pn), .ref yp, .int (nI bn), .ref yb, .ref yr, .ref yl])), (yp, .inl (cI, 12, .inl pf)), (yb, .inl (cI, 10, .inl bs)), (yr, .inl (cI, 10, .inl br)), (yl, .inl (cI, 16, .inl lv))] s.heap := hP
  have hl := lv_entry ([.ref y, .int i]) (n := 2) (Nat.le_of_ble_eq_true rfl)
  rw [lg_entry_eq]
  generalize (lg_sl ([.ref y, .int i]) ++ List.replicate (2 - (lg_sl ([.ref y, .int i])).length) Slot.unset).toArray = ls at hl ⊢
  have hl : lv_has ls 2 [(0, .ref y), (1, .int i)] := hl
  refine lv_aload_n (pc := 0) hx hb dX4_level_0 rfl (lv_at hl 0 rfl) ?_
  refine lv_iconst (pc := 1) (v := 0) hx hb dX4_level_1 (by decide) ?_
  refine va_put (pc := 2) (D := G) (ci := 4) (v := .int 0) (ty := .int) (C := RX4) (T := TX4) (N := 7) hx hb hts hw1 tyX4 tyX4_ok nmX4 hown hK hP hD hS 0 rfl rfl 0 (by decide) hw0 (fun _ h9 => h9) rfl (by decide +kernel) rfl rfl (Nat.le_of_ble_eq_true rfl) dX4_level_2 (fun H locs hP hD hS => ?_)
  have hP : va_P G vwCl [(y, .inr (4, [.int 0, .int (nI pn), .ref yp, .int (nI bn), .ref yb, .ref yr, .ref yl])), (yp, .inl (cI, 12, .inl pf)), (yb, .inl (cI, 10, .inl bs)), (yr, .inl (cI, 10, .inl br)), (yl, .inl (cI, 16, .inl lv))] H := hP
  have hD : va_D A [(y, .inr (4, [.int 0, .int (nI pn), .ref yp, .int (nI bn), .ref yb, .ref yr, .ref yl])), (yp, .inl (cI, 12, .inl pf)), (yb, .inl (cI, 10, .inl bs)), (yr, .inl (cI, 10, .inl br)), (yl, .inl (cI, 16, .inl lv))] := hD
  refine lv_iload_n (pc := 5) hx hb dX4_level_5 rfl (lv_at hl 1 rfl) ?_
  refine lv_iconst (pc := 6) (v := 0) hx hb dX4_level_6 (by decide) ?_
  refine lv_bipush (pc := 7) (v := 15) hx hb dX4_level_7 (by decide) ?_
  have hPc := hP.sub (ws' := []) [] rfl
  refine bv_cSi (pc := 9) (E' := (bv_b (decide (0 ≤ i ∧ i ≤ 15)))) (va_runS (As := [.int i, .int 0, .int 15]) (rest := []) ⟨hx, hb, hml, hown, hts⟩ (m_X4_isIn l G cI i 0 15 ) (va_cwS 3 hts gX4_level_X4_isIn rfl rfl rfl (by decide +kernel) ⟨Nat.le_of_ble_eq_true rfl, Nat.le_of_ble_eq_true rfl⟩) (bv_pS hE hPc) rfl rfl hl.1 rfl (lv_room (Nat.le_of_ble_eq_true rfl)) dX4_level_9 ⟨Nat.le_of_ble_eq_true rfl, Nat.le_of_ble_eq_true rfl⟩) rfl ?_
  refine lv_if_eq (pc := 12) (tgt := 24) hx hb dX4_level_12 (by decide) (fun c12_3 => ?_) (fun c12_3 => ?_)
  · have hbad := of_decide_eq_false (bv_b0.mp c12_3)
    refine lv_aload_n (pc := 24) hx hb dX4_level_24 rfl (lv_at hl 0 rfl) ?_
    refine lv_iconst (pc := 25) (v := 1) hx hb dX4_level_25 (by decide) ?_
    have hPc := hP.sub (ws' := [(y, .inr (4, [.int 0, .int (nI pn), .ref yp, .int (nI bn), .ref yb, .ref yr, .ref yl]))]) [0] rfl
    have hDc := hD.sub (ws' := [(y, .inr (4, [.int 0, .int (nI pn), .ref yp, .int (nI bn), .ref yb, .ref yr, .ref yl]))]) [0] (by decide) rfl
    have hFc := va_free (wc := [(y, .inr (4, [.int 0, .int (nI pn), .ref yp, .int (nI bn), .ref yb, .ref yr, .ref yl]))]) hD hS hA [0] rfl
    refine bv_cMi (pc := 26) (E' := 0) (va_runV (As := [.int 1]) (rest := []) ⟨hx, hb, hml, hown, hts⟩ (m_X4_no l G cI H.size y yp yb yr yl 0 (nI pn) (nI bn) 1 ) (cwV 1 hts gX4_level_X4_no rfl rfl rfl (by decide +kernel) ⟨Nat.le_of_ble_eq_true rfl, Nat.le_of_ble_eq_true rfl⟩) (bv_pV hE ⟨rfl, hPc, hDc.weaken (fun _ _ _ _ => trivial)⟩ (va_recv hK hP (ci := 4) (q0 := 0) rfl rfl)) rfl rfl hl.1 rfl (lv_room (Nat.le_of_ble_eq_true rfl)) dX4_level_26 ⟨Nat.le_of_ble_eq_true rfl, Nat.le_of_ble_eq_true rfl⟩) hS (fun q _ h => hFc q h) hFc rfl (fun t8 H1 locs ht8 hvm8 hB8 hz1 hk1 hS => ?_)
    have hP1 : va_P G vwCl [(y, .inr (4, [.int 1, .int (nI pn), .ref yp, .int (nI bn), .ref yb, .ref yr, .ref yl]))] H1 := by rw [← ht8]; exact hB8
    obtain ⟨hP, hD⟩ := va_join (wr := [(yp, .inl (cI, 12, .inl pf)), (yb, .inl (cI, 10, .inl bs)), (yr, .inl (cI, 10, .inl br)), (yl, .inl (cI, 16, .inl lv))]) (w1 := [(y, .inr (4, [.int 1, .int (nI pn), .ref yp, .int (nI bn), .ref yb, .ref yr, .ref yl]))]) hP hD [0] [1, 2, 3, 4] rfl rfl (by decide) (by decide) hk1 hFc hP1 (bv_Dm (w0 := [(y, .inr (4, [.int 0, .int (nI pn), .ref yp, .int (nI bn), .ref yb, .ref yr, .ref yl]))]) [y] rfl rfl hDc.self)
    have hP : va_P G vwCl [(y, .inr (4, [.int 1, .int (nI pn), .ref yp, .int (nI bn), .ref yb, .ref yr, .ref yl])), (yp, .inl (cI, 12, .inl pf)), (yb, .inl (cI, 10, .inl bs)), (yr, .inl (cI, 10, .inl br)), (yl, .inl (cI, 16, .inl lv))] H1 := hP.sub (ws' := [(y, .inr (4, [.int 1, .int (nI pn), .ref yp, .int (nI bn), .ref yb, .ref yr, .ref yl])), (yp, .inl (cI, 12, .inl pf)), (yb, .inl (cI, 10, .inl bs)), (yr, .inl (cI, 10, .inl br)), (yl, .inl (cI, 16, .inl lv))]) [4, 0, 1, 2, 3] rfl
    have hD : va_D A [(y, .inr (4, [.int 1, .int (nI pn), .ref yp, .int (nI bn), .ref yb, .ref yr, .ref yl])), (yp, .inl (cI, 12, .inl pf)), (yb, .inl (cI, 10, .inl bs)), (yr, .inl (cI, 10, .inl br)), (yl, .inl (cI, 16, .inl lv))] := hD.sub (ws' := [(y, .inr (4, [.int 1, .int (nI pn), .ref yp, .int (nI bn), .ref yb, .ref yr, .ref yl])), (yp, .inl (cI, 12, .inl pf)), (yb, .inl (cI, 10, .inl bs)), (yr, .inl (cI, 10, .inl br)), (yl, .inl (cI, 16, .inl lv))]) [4, 0, 1, 2, 3] (by decide) rfl
    generalize H1 = H at hP hS ⊢
    have hP9 : va_P G vwCl [(y, .inr (4, [.int (nI (if ¬ (0 ≤ i ∧ i ≤ 15) then 1 else 0)), .int (nI pn), .ref yp, .int (nI bn), .ref yb, .ref yr, .ref yl])), (yp, .inl (cI, 12, .inl pf)), (yb, .inl (cI, 10, .inl bs)), (yr, .inl (cI, 10, .inl br)), (yl, .inl (cI, 16, .inl lv))] H := by rw [if_pos hbad]; exact hP
    exact W.iret (pc := 29) (v := 0) hx hb hr (fun T8 hT8 hW8 => ⟨⟨0, (), rfl, (by rw [if_pos hbad]; rfl), bv_hP hT8 hP9⟩, hS.F hT8⟩) hS.2.2 dX4_level_29
  · have hck0 := of_decide_eq_true (bv_b1.mp c12_3)
    obtain ⟨j, hj, rfl⟩ := bv_ix2 (n := 15) (by decide) hck0.1 hck0.2
    refine lv_aload_n (pc := 15) hx hb dX4_level_15 rfl (lv_at hl 0 rfl) ?_
    refine va_get (pc := 16) (D := G) (ci := 4) (v := .ref yl) (C := RX4) (T := TX4) (N := 7) hx hb hts hw1 hown hK hP 0 rfl rfl 6 (by decide) hw3 (fun _ h9 => h9) rfl dX4_level_16 ?_
    refine lv_iload_n (pc := 19) hx hb dX4_level_19 rfl (lv_at hl 1 rfl) ?_
    refine bv_ial (pc := 20) hx hb hK hP 4 0 rfl rfl (by omega) (by omega) dX4_level_20 ?_
    refine lv_goto (pc := 21) (tgt := 29) hx hb dX4_level_21 (by decide) ?_
    have hP9 : va_P G vwCl [(y, .inr (4, [.int (nI (if ¬ (0 ≤ (nI j) ∧ (nI j) ≤ 15) then 1 else 0)), .int (nI pn), .ref yp, .int (nI bn), .ref yb, .ref yr, .ref yl])), (yp, .inl (cI, 12, .inl pf)), (yb, .inl (cI, 10, .inl bs)), (yr, .inl (cI, 10, .inl br)), (yl, .inl (cI, 16, .inl lv))] H := by rw [if_neg (not_not_intro hck0)]; exact hP
    exact W.iret (pc := 29) (v := (lv j)) hx hb hr (fun T8 hT8 hW8 => ⟨⟨(lv j), (), rfl, (by rw [if_neg (not_not_intro hck0), nI_clamp (by omega)]; rfl), bv_hP hT8 hP9⟩, hS.F hT8⟩) hS.2.2 dX4_level_29
set_option maxHeartbeats 4000000 in
set_option maxRecDepth 100000 in
theorem m_X4_possible (l : Launch) (G : va_G) (cI : ClassId) (sz : Nat) (y yp yb yr yl pn bn : Nat) (th : Int32) (pf bs br lv : Nat → Int32) (hp : pn ≤ 12) (hn : bn ≤ 10) : Met l yX4_possible wsX4_possible ({ frames := 3, cells := 0, slots := 0, locals := 65 }) (bv_P [.ref y] G cI (fun H => H.size = sz ∧ va_P G vwCl [(y, .inr (4, [.int th, .int (nI pn), .ref yp, .int (nI bn), .ref yb, .ref yr, .ref yl])), (yp, .inl (cI, 12, .inl pf)), (yb, .inl (cI, 10, .inl bs)), (yr, .inl (cI, 10, .inl br)), (yl, .inl (cI, 16, .inl lv))] H ∧ va_D (fun _ => True) [(y, .inr (4, [.int th, .int (nI pn), .ref yp, .int (nI bn), .ref yb, .ref yr, .ref yl])), (yp, .inl (cI, 12, .inl pf)), (yb, .inl (cI, 10, .inl bs)), (yr, .inl (cI, 10, .inl br)), (yl, .inl (cI, 16, .inl lv))])) (va_Qi (fun (r9 : Int32) (_ : Unit) => r9 = (bv_open lv)) (fun (_ : Unit) (T9 : State) => va_P G vwCl [(y, .inr (4, [.int 0, .int (nI pn), .ref yp, .int (nI bn), .ref yb, .ref yr, .ref yl])), (yp, .inl (cI, 12, .inl pf)), (yb, .inl (cI, 10, .inl bs)), (yr, .inl (cI, 10, .inl br)), (yl, .inl (cI, 16, .inl lv))] T9.heap) (va_A [(y, .inr (4, [.int th, .int (nI pn), .ref yp, .int (nI bn), .ref yb, .ref yr, .ref yl])), (yp, .inl (cI, 12, .inl pf)), (yb, .inl (cI, 10, .inl bs)), (yr, .inl (cI, 10, .inl br)), (yl, .inl (cI, 16, .inl lv))] sz)) 0 0 (va_A [(y, .inr (4, [.int th, .int (nI pn), .ref yp, .int (nI bn), .ref yb, .ref yr, .ref yl])), (yp, .inl (cI, 12, .inl pf)), (yb, .inl (cI, 10, .inl bs)), (yr, .inl (cI, 10, .inl br)), (yl, .inl (cI, 16, .inl lv))] sz) := by
  refine Met.ofW (cc := cX4_possible) (maxL := 1) (ret := (some .int)) (by decide) rfl ?_
  intro p e s m args below meth c s₁ B hml hv
  obtain ⟨rfl, ⟨hsz, hP, hD0⟩, hE⟩ := hv
  have hx := B.exec
  have hb := B.bytes
  have hr := B.returns
  have hts := atoms_spec (ws := wsX4_possible) B.pre
  have hown : s.vm.findClass RX4 = some m.cls := findClass_of_methodNamed B.named
  have hlocks := B.notSynchronized
  have hK := hE.1
  have hw0 := hts (.fieldLink RX4 22 "BeliefReviserModel" "thrown" "I") (List.mem_of_getElem? (i := 1) rfl)
  have hw1 : ∀ w ∈ u_ws RX4 TX4 7, w ∈ wsX4_possible := by decide +kernel
  subst hsz
  have hD := hD0.self (sz := s.heap.size)
  generalize hAe : va_A [(y, .inr (4, [.int th, .int (nI pn), .ref yp, .int (nI bn), .ref yb, .ref yr, .ref yl])), (yp, .inl (cI, 12, .inl pf)), (yb, .inl (cI, 10, .inl bs)), (yr, .inl (cI, 10, .inl br)), (yl, .inl (cI, 16, .inl lv))] s.heap.size = A at hD ⊢
  have hA : ∀ q : Nat, s.heap.size ≤ q → A q := fun q h => by rw [← hAe]; exact Or.inr h
  have hS : va_S A s.heap s.heap [] := va_S.rf
  have hP : va_P G vwCl [(y, .inr (4, [.int th, .int (nI pn), .ref yp, .int (nI bn), .ref yb, .ref yr, .ref yl])), (yp, .inl (cI, 12, .inl pf)), (yb, .inl (cI, 10, .inl bs)), (yr, .inl (cI, 10, .inl br)), (yl, .inl (cI, 16, .inl lv))] s.heap := hP
  have hl := lv_entry ([.ref y]) (n := 1) (Nat.le_of_ble_eq_true rfl)
  rw [lg_entry_eq]
  generalize (lg_sl ([.ref y]) ++ List.replicate (1 - (lg_sl ([.ref y])).length) Slot.unset).toArray = ls at hl ⊢
  have hl : lv_has ls 1 [(0, .ref y)] := hl
  refine lv_aload_n (pc := 0) hx hb dX4_possible_0 rfl (lv_at hl 0 rfl) ?_
  refine lv_iconst (pc := 1) (v := 0) hx hb dX4_possible_1 (by decide) ?_
  refine va_put (pc := 2) (D := G) (ci := 4) (v := .int 0) (ty := .int) (C := RX4) (T := TX4) (N := 7) hx hb hts hw1 tyX4 tyX4_ok nmX4 hown hK hP hD hS 0 rfl rfl 0 (by decide) hw0 (fun _ h9 => h9) rfl (by decide +kernel) rfl rfl (Nat.le_of_ble_eq_true rfl) dX4_possible_2 (fun H locs hP hD hS => ?_)
  have hP : va_P G vwCl [(y, .inr (4, [.int 0, .int (nI pn), .ref yp, .int (nI bn), .ref yb, .ref yr, .ref yl])), (yp, .inl (cI, 12, .inl pf)), (yb, .inl (cI, 10, .inl bs)), (yr, .inl (cI, 10, .inl br)), (yl, .inl (cI, 16, .inl lv))] H := hP
  have hD : va_D A [(y, .inr (4, [.int 0, .int (nI pn), .ref yp, .int (nI bn), .ref yb, .ref yr, .ref yl])), (yp, .inl (cI, 12, .inl pf)), (yb, .inl (cI, 10, .inl bs)), (yr, .inl (cI, 10, .inl br)), (yl, .inl (cI, 16, .inl lv))] := hD
  refine lv_aload_n (pc := 5) hx hb dX4_possible_5 rfl (lv_at hl 0 rfl) ?_
  have hPc := hP.sub (ws' := [(y, .inr (4, [.int 0, .int (nI pn), .ref yp, .int (nI bn), .ref yb, .ref yr, .ref yl])), (yl, .inl (cI, 16, .inl lv))]) [0, 4] rfl
  refine bv_cSi (pc := 6) (E' := (bv_open lv)) (va_runV (As := []) (rest := []) ⟨hx, hb, hml, hown, hts⟩ (m_X4_possibleNow l G cI y yp yb yr yl 0 (nI pn) (nI bn) lv ) (cwV 0 hts gX4_possible_X4_possibleNow rfl rfl rfl (by decide +kernel) ⟨Nat.le_of_ble_eq_true rfl, Nat.le_of_ble_eq_true rfl⟩) (bv_pV hE hPc (va_recv hK hP (ci := 4) (q0 := 0) rfl rfl)) rfl rfl hl.1 rfl (lv_room (Nat.le_of_ble_eq_true rfl)) dX4_possible_6 ⟨Nat.le_of_ble_eq_true rfl, Nat.le_of_ble_eq_true rfl⟩) rfl ?_
  have hP9 : va_P G vwCl [(y, .inr (4, [.int 0, .int (nI pn), .ref yp, .int (nI bn), .ref yb, .ref yr, .ref yl])), (yp, .inl (cI, 12, .inl pf)), (yb, .inl (cI, 10, .inl bs)), (yr, .inl (cI, 10, .inl br)), (yl, .inl (cI, 16, .inl lv))] H := hP
  exact W.iret (pc := 9) (v := (bv_open lv)) hx hb hr (fun T8 hT8 hW8 => ⟨⟨(bv_open lv), (), rfl, rfl, bv_hP hT8 hP9⟩, hS.F hT8⟩) hS.2.2 dX4_possible_9
set_option maxHeartbeats 4000000 in
set_option maxRecDepth 100000 in
theorem m_X4_firmness (l : Launch) (G : va_G) (cI : ClassId) (sz : Nat) (y yp yb yr yl pn bn : Nat) (th : Int32) (pf bs br lv : Nat → Int32) (hp : pn ≤ 12) (hn : bn ≤ 10) (hpf : ∀ j, j < pn → pf j &&& 65535 = pf j) (hlv : ∀ w, w < 16 → 0 ≤ lv w ∧ lv w < 2147483647) : Met l yX4_firmness wsX4_firmness ({ frames := 2, cells := 0, slots := 0, locals := 44 }) (bv_P [.ref y] G cI (fun H => H.size = sz ∧ va_P G vwCl [(y, .inr (4, [.int th, .int (nI pn), .ref yp, .int (nI bn), .ref yb, .ref yr, .ref yl])), (yp, .inl (cI, 12, .inl pf)), (yb, .inl (cI, 10, .inl bs)), (yr, .inl (cI, 10, .inl br)), (yl, .inl (cI, 16, .inl lv))] H ∧ va_D (fun _ => True) [(y, .inr (4, [.int th, .int (nI pn), .ref yp, .int (nI bn), .ref yb, .ref yr, .ref yl])), (yp, .inl (cI, 12, .inl pf)), (yb, .inl (cI, 10, .inl bs)), (yr, .inl (cI, 10, .inl br)), (yl, .inl (cI, 16, .inl lv))])) (va_Qi (fun (r9 : Int32) (_ : Unit) => r9 = (bv_if (if ¬ (1 ≤ pn) then 1 else 0) (bv_ll lv (bv_not (pf (pn - 1))) 16) 0)) (fun (_ : Unit) (T9 : State) => va_P G vwCl [(y, .inr (4, [.int (nI (if ¬ (1 ≤ pn) then 1 else 0)), .int (nI pn), .ref yp, .int (nI bn), .ref yb, .ref yr, .ref yl])), (yp, .inl (cI, 12, .inl pf)), (yb, .inl (cI, 10, .inl bs)), (yr, .inl (cI, 10, .inl br)), (yl, .inl (cI, 16, .inl lv))] T9.heap) (va_A [(y, .inr (4, [.int th, .int (nI pn), .ref yp, .int (nI bn), .ref yb, .ref yr, .ref yl])), (yp, .inl (cI, 12, .inl pf)), (yb, .inl (cI, 10, .inl bs)), (yr, .inl (cI, 10, .inl br)), (yl, .inl (cI, 16, .inl lv))] sz)) 0 0 (va_A [(y, .inr (4, [.int th, .int (nI pn), .ref yp, .int (nI bn), .ref yb, .ref yr, .ref yl])), (yp, .inl (cI, 12, .inl pf)), (yb, .inl (cI, 10, .inl bs)), (yr, .inl (cI, 10, .inl br)), (yl, .inl (cI, 16, .inl lv))] sz) := by
  refine Met.ofW (cc := cX4_firmness) (maxL := 1) (ret := (some .int)) (by decide) rfl ?_
  intro p e s m args below meth c s₁ B hml hv
  obtain ⟨rfl, ⟨hsz, hP, hD0⟩, hE⟩ := hv
  have hx := B.exec
  have hb := B.bytes
  have hr := B.returns
  have hts := atoms_spec (ws := wsX4_firmness) B.pre
  have hown : s.vm.findClass RX4 = some m.cls := findClass_of_methodNamed B.named
  have hlocks := B.notSynchronized
  have hK := hE.1
  have hw0 := hts (.fieldLink RX4 22 "BeliefReviserModel" "thrown" "I") (List.mem_of_getElem? (i := 1) rfl)
  have hw1 : ∀ w ∈ u_ws RX4 TX4 7, w ∈ wsX4_firmness := by decide +kernel
  have hw2 := hts (.fieldLink RX4 33 "BeliefReviserModel" "high" "I") (List.mem_of_getElem? (i := 2) rfl)
  have hw3 := hts (.constant RX4 51 65535) (List.mem_of_getElem? (i := 3) rfl)
  subst hsz
  have hD := hD0.self (sz := s.heap.size)
  generalize hAe : va_A [(y, .inr (4, [.int th, .int (nI pn), .ref yp, .int (nI bn), .ref yb, .ref yr, .ref yl])), (yp, .inl (cI, 12, .inl pf)), (yb, .inl (cI, 10, .inl bs)), (yr, .inl (cI, 10, .inl br)), (yl, .inl (cI, 16, .inl lv))] s.heap.size = A at hD ⊢
  have hA : ∀ q : Nat, s.heap.size ≤ q → A q := fun q h => by rw [← hAe]; exact Or.inr h
  have hS : va_S A s.heap s.heap [] := va_S.rf
  have hP : va_P G vwCl [(y, .inr (4, [.int th, .int (nI pn), .ref yp, .int (nI bn), .ref yb, .ref yr, .ref yl])), (yp, .inl (cI, 12, .inl pf)), (yb, .inl (cI, 10, .inl bs)), (yr, .inl (cI, 10, .inl br)), (yl, .inl (cI, 16, .inl lv))] s.heap := hP
  have hl := lv_entry ([.ref y]) (n := 1) (Nat.le_of_ble_eq_true rfl)
  rw [lg_entry_eq]
  generalize (lg_sl ([.ref y]) ++ List.replicate (1 - (lg_sl ([.ref y])).length) Slot.unset).toArray = ls at hl ⊢
  have hl : lv_has ls 1 [(0, .ref y)] := hl
  refine lv_aload_n (pc := 0) hx hb dX4_firmness_0 rfl (lv_at hl 0 rfl) ?_
  refine lv_iconst (pc := 1) (v := 0) hx hb dX4_firmness_1 (by decide) ?_
  refine va_put (pc := 2) (D := G) (ci := 4) (v := .int 0) (ty := .int) (C := RX4) (T := TX4) (N := 7) hx hb hts hw1 tyX4 tyX4_ok nmX4 hown hK hP hD hS 0 rfl rfl 0 (by decide) hw0 (fun _ h9 => h9) rfl (by decide +kernel) rfl rfl (Nat.le_of_ble_eq_true rfl) dX4_firmness_2 (fun H locs hP hD hS => ?_)
  have hP : va_P G vwCl [(y, .inr (4, [.int 0, .int (nI pn), .ref yp, .int (nI bn), .ref yb, .ref yr, .ref yl])), (yp, .inl (cI, 12, .inl pf)), (yb, .inl (cI, 10, .inl bs)), (yr, .inl (cI, 10, .inl br)), (yl, .inl (cI, 16, .inl lv))] H := hP
  have hD : va_D A [(y, .inr (4, [.int 0, .int (nI pn), .ref yp, .int (nI bn), .ref yb, .ref yr, .ref yl])), (yp, .inl (cI, 12, .inl pf)), (yb, .inl (cI, 10, .inl bs)), (yr, .inl (cI, 10, .inl br)), (yl, .inl (cI, 16, .inl lv))] := hD
  refine lv_aload_n (pc := 5) hx hb dX4_firmness_5 rfl (lv_at hl 0 rfl) ?_
  refine va_get (pc := 6) (D := G) (ci := 4) (v := .int (nI pn)) (C := RX4) (T := TX4) (N := 7) hx hb hts hw1 hown hK hP 0 rfl rfl 1 (by decide) hw2 (fun _ h9 => h9) rfl dX4_firmness_6 ?_
  refine lv_if_ne (pc := 9) (tgt := 18) hx hb dX4_firmness_9 (by decide) (fun c9_1 => ?_) (fun c9_1 => ?_)
  · have hck0 : 1 ≤ pn := by
      by_cases h : pn = 0
      · exact absurd (by rw [h]; rfl) c9_1
      · omega
    refine lv_aload_n (pc := 18) hx hb dX4_firmness_18 rfl (lv_at hl 0 rfl) ?_
    refine lv_iconst (pc := 19) (v := 0) hx hb dX4_firmness_19 (by decide) ?_
    have hPc := hP.sub (ws' := [(y, .inr (4, [.int 0, .int (nI pn), .ref yp, .int (nI bn), .ref yb, .ref yr, .ref yl])), (yp, .inl (cI, 12, .inl pf))]) [0, 1] rfl
    refine bv_cSi (pc := 20) (E' := (pf (pn - 1))) (va_runV (As := [.int 0]) (rest := []) ⟨hx, hb, hml, hown, hts⟩ (m_X4_top l G cI y yp yb yr yl pn 0 (nI bn) pf 0 hck0 hp) (cwV 1 hts gX4_firmness_X4_top rfl rfl rfl (by decide +kernel) ⟨Nat.le_of_ble_eq_true rfl, Nat.le_of_ble_eq_true rfl⟩) (bv_pV hE hPc (va_recv hK hP (ci := 4) (q0 := 0) rfl rfl)) rfl rfl hl.1 rfl (lv_room (Nat.le_of_ble_eq_true rfl)) dX4_firmness_20 ⟨Nat.le_of_ble_eq_true rfl, Nat.le_of_ble_eq_true rfl⟩) (by rw [Nat.sub_zero]) ?_
    refine lv_ldc (pc := 23) hx hb hown hw3 dX4_firmness_23 ?_
    refine lv_icmp_ne (pc := 25) (tgt := 32) hx hb dX4_firmness_25 (by decide) (fun c25_4 => ?_) (fun c25_4 => ?_)
    · have h1 := c25_4
      refine lv_aload_n (pc := 32) hx hb dX4_firmness_32 rfl (lv_at hl 0 rfl) ?_
      refine lv_ldc (pc := 33) hx hb hown hw3 dX4_firmness_33 ?_
      refine lv_aload_n (pc := 35) hx hb dX4_firmness_35 rfl (lv_at hl 0 rfl) ?_
      refine lv_iconst (pc := 36) (v := 0) hx hb dX4_firmness_36 (by decide) ?_
      have hPc := hP.sub (ws' := [(y, .inr (4, [.int 0, .int (nI pn), .ref yp, .int (nI bn), .ref yb, .ref yr, .ref yl])), (yp, .inl (cI, 12, .inl pf))]) [0, 1] rfl
      refine bv_cSi (pc := 37) (E' := (pf (pn - 1))) (va_runV (As := [.int 0]) (rest := [.int 65535, .ref y]) ⟨hx, hb, hml, hown, hts⟩ (m_X4_top l G cI y yp yb yr yl pn 0 (nI bn) pf 0 hck0 hp) (cwV 1 hts gX4_firmness_X4_top rfl rfl rfl (by decide +kernel) ⟨Nat.le_of_ble_eq_true rfl, Nat.le_of_ble_eq_true rfl⟩) (bv_pV hE hPc (va_recv hK hP (ci := 4) (q0 := 0) rfl rfl)) rfl rfl hl.1 rfl (lv_room (Nat.le_of_ble_eq_true rfl)) dX4_firmness_37 ⟨Nat.le_of_ble_eq_true rfl, Nat.le_of_ble_eq_true rfl⟩) (by rw [Nat.sub_zero]) ?_
      refine lv_iconst (pc := 40) (v := (-1)) hx hb dX4_firmness_40 (by decide) ?_
      refine lv_ixor (pc := 41) hx hb dX4_firmness_41 ?_
      refine lv_iand (pc := 42) hx hb dX4_firmness_42 ?_
      have hPc := hP.sub (ws' := [(y, .inr (4, [.int 0, .int (nI pn), .ref yp, .int (nI bn), .ref yb, .ref yr, .ref yl])), (yl, .inl (cI, 16, .inl lv))]) [0, 4] rfl
      refine bv_cSi (pc := 43) (E' := (bv_ls lv (65535 &&& ((pf (pn - 1)) ^^^ (-1))) 16)) (va_runV (As := [.int (65535 &&& ((pf (pn - 1)) ^^^ (-1)))]) (rest := []) ⟨hx, hb, hml, hown, hts⟩ (m_X4_least l G cI y yp yb yr yl 0 (nI pn) (nI bn) lv (65535 &&& ((pf (pn - 1)) ^^^ (-1))) ) (cwV 1 hts gX4_firmness_X4_least rfl rfl rfl (by decide +kernel) ⟨Nat.le_of_ble_eq_true rfl, Nat.le_of_ble_eq_true rfl⟩) (bv_pV hE hPc (va_recv hK hP (ci := 4) (q0 := 0) rfl rfl)) rfl rfl hl.1 rfl (lv_room (Nat.le_of_ble_eq_true rfl)) dX4_firmness_43 ⟨Nat.le_of_ble_eq_true rfl, Nat.le_of_ble_eq_true rfl⟩) rfl ?_
      have hP9 : va_P G vwCl [(y, .inr (4, [.int (nI (if ¬ (1 ≤ pn) then 1 else 0)), .int (nI pn), .ref yp, .int (nI bn), .ref yb, .ref yr, .ref yl])), (yp, .inl (cI, 12, .inl pf)), (yb, .inl (cI, 10, .inl bs)), (yr, .inl (cI, 10, .inl br)), (yl, .inl (cI, 16, .inl lv))] H := by rw [if_neg (not_not_intro hck0)]; exact hP
      exact W.iret (pc := 46) (v := (bv_ls lv (65535 &&& ((pf (pn - 1)) ^^^ (-1))) 16)) hx hb hr (fun T8 hT8 hW8 => ⟨⟨(bv_ls lv (65535 &&& ((pf (pn - 1)) ^^^ (-1))) 16), (), rfl, (by rw [if_neg (not_not_intro hck0)]; exact bv_ls_eq hlv (bv_not16 _) (bv_notnz (hpf _ (by omega)) h1)), bv_hP hT8 hP9⟩, hS.F hT8⟩) hS.2.2 dX4_firmness_46
    · have h1 := c25_4
      refine lv_iconst (pc := 28) (v := (-1)) hx hb dX4_firmness_28 (by decide) ?_
      refine lv_goto (pc := 29) (tgt := 46) hx hb dX4_firmness_29 (by decide) ?_
      have hP9 : va_P G vwCl [(y, .inr (4, [.int (nI (if ¬ (1 ≤ pn) then 1 else 0)), .int (nI pn), .ref yp, .int (nI bn), .ref yb, .ref yr, .ref yl])), (yp, .inl (cI, 12, .inl pf)), (yb, .inl (cI, 10, .inl bs)), (yr, .inl (cI, 10, .inl br)), (yl, .inl (cI, 16, .inl lv))] H := by rw [if_neg (not_not_intro hck0)]; exact hP
      exact W.iret (pc := 46) (v := (-1)) hx hb hr (fun T8 hT8 hW8 => ⟨⟨(-1), (), rfl, (by rw [if_neg (not_not_intro hck0), h1, bv_not_all, bv_ll0 lv 16 (Nat.le_refl _)]; rfl), bv_hP hT8 hP9⟩, hS.F hT8⟩) hS.2.2 dX4_firmness_46
  · have hbad : ¬ 1 ≤ pn := by
      have h : pn = 0 := (bv_pn0 (by omega)).mp c9_1
      omega
    refine lv_aload_n (pc := 12) hx hb dX4_firmness_12 rfl (lv_at hl 0 rfl) ?_
    refine lv_iconst (pc := 13) (v := 1) hx hb dX4_firmness_13 (by decide) ?_
    have hPc := hP.sub (ws' := [(y, .inr (4, [.int 0, .int (nI pn), .ref yp, .int (nI bn), .ref yb, .ref yr, .ref yl]))]) [0] rfl
    have hDc := hD.sub (ws' := [(y, .inr (4, [.int 0, .int (nI pn), .ref yp, .int (nI bn), .ref yb, .ref yr, .ref yl]))]) [0] (by decide) rfl
    have hFc := va_free (wc := [(y, .inr (4, [.int 0, .int (nI pn), .ref yp, .int (nI bn), .ref yb, .ref yr, .ref yl]))]) hD hS hA [0] rfl
    refine bv_cMi (pc := 14) (E' := 0) (va_runV (As := [.int 1]) (rest := []) ⟨hx, hb, hml, hown, hts⟩ (m_X4_no l G cI H.size y yp yb yr yl 0 (nI pn) (nI bn) 1 ) (cwV 1 hts gX4_firmness_X4_no rfl rfl rfl (by decide +kernel) ⟨Nat.le_of_ble_eq_true rfl, Nat.le_of_ble_eq_true rfl⟩) (bv_pV hE ⟨rfl, hPc, hDc.weaken (fun _ _ _ _ => trivial)⟩ (va_recv hK hP (ci := 4) (q0 := 0) rfl rfl)) rfl rfl hl.1 rfl (lv_room (Nat.le_of_ble_eq_true rfl)) dX4_firmness_14 ⟨Nat.le_of_ble_eq_true rfl, Nat.le_of_ble_eq_true rfl⟩) hS (fun q _ h => hFc q h) hFc rfl (fun t8 H1 locs ht8 hvm8 hB8 hz1 hk1 hS => ?_)
    have hP1 : va_P G vwCl [(y, .inr (4, [.int 1, .int (nI pn), .ref yp, .int (nI bn), .ref yb, .ref yr, .ref yl]))] H1 := by rw [← ht8]; exact hB8
    obtain ⟨hP, hD⟩ := va_join (wr := [(yp, .inl (cI, 12, .inl pf)), (yb, .inl (cI, 10, .inl bs)), (yr, .inl (cI, 10, .inl br)), (yl, .inl (cI, 16, .inl lv))]) (w1 := [(y, .inr (4, [.int 1, .int (nI pn), .ref yp, .int (nI bn), .ref yb, .ref yr, .ref yl]))]) hP hD [0] [1, 2, 3, 4] rfl rfl (by decide) (by decide) hk1 hFc hP1 (bv_Dm (w0 := [(y, .inr (4, [.int 0, .int (nI pn), .ref yp, .int (nI bn), .ref yb, .ref yr, .ref yl]))]) [y] rfl rfl hDc.self)
    have hP : va_P G vwCl [(y, .inr (4, [.int 1, .int (nI pn), .ref yp, .int (nI bn), .ref yb, .ref yr, .ref yl])), (yp, .inl (cI, 12, .inl pf)), (yb, .inl (cI, 10, .inl bs)), (yr, .inl (cI, 10, .inl br)), (yl, .inl (cI, 16, .inl lv))] H1 := hP.sub (ws' := [(y, .inr (4, [.int 1, .int (nI pn), .ref yp, .int (nI bn), .ref yb, .ref yr, .ref yl])), (yp, .inl (cI, 12, .inl pf)), (yb, .inl (cI, 10, .inl bs)), (yr, .inl (cI, 10, .inl br)), (yl, .inl (cI, 16, .inl lv))]) [4, 0, 1, 2, 3] rfl
    have hD : va_D A [(y, .inr (4, [.int 1, .int (nI pn), .ref yp, .int (nI bn), .ref yb, .ref yr, .ref yl])), (yp, .inl (cI, 12, .inl pf)), (yb, .inl (cI, 10, .inl bs)), (yr, .inl (cI, 10, .inl br)), (yl, .inl (cI, 16, .inl lv))] := hD.sub (ws' := [(y, .inr (4, [.int 1, .int (nI pn), .ref yp, .int (nI bn), .ref yb, .ref yr, .ref yl])), (yp, .inl (cI, 12, .inl pf)), (yb, .inl (cI, 10, .inl bs)), (yr, .inl (cI, 10, .inl br)), (yl, .inl (cI, 16, .inl lv))]) [4, 0, 1, 2, 3] (by decide) rfl
    generalize H1 = H at hP hS ⊢
    have hP9 : va_P G vwCl [(y, .inr (4, [.int (nI (if ¬ (1 ≤ pn) then 1 else 0)), .int (nI pn), .ref yp, .int (nI bn), .ref yb, .ref yr, .ref yl])), (yp, .inl (cI, 12, .inl pf)), (yb, .inl (cI, 10, .inl bs)), (yr, .inl (cI, 10, .inl br)), (yl, .inl (cI, 16, .inl lv))] H := by rw [if_pos hbad]; exact hP
    exact W.iret (pc := 17) (v := 0) hx hb hr (fun T8 hT8 hW8 => ⟨⟨0, (), rfl, (by rw [if_pos hbad]; rfl), bv_hP hT8 hP9⟩, hS.F hT8⟩) hS.2.2 dX4_firmness_17
set_option maxHeartbeats 4000000 in
set_option maxRecDepth 100000 in
theorem m_X4_would (l : Launch) (G : va_G) (cI : ClassId) (sz : Nat) (y yp yb yr yl pn bn : Nat) (th : Int32) (pf bs br lv : Nat → Int32) (hp : pn ≤ 12) (hn : bn ≤ 10) (hpf : ∀ j, j < pn → pf j &&& 65535 = pf j) (hlv : ∀ w, w < 16 → 0 ≤ lv w ∧ lv w < 2147483647) : Met l yX4_would wsX4_would ({ frames := 2, cells := 0, slots := 0, locals := 45 }) (bv_P [.ref y] G cI (fun H => H.size = sz ∧ va_P G vwCl [(y, .inr (4, [.int th, .int (nI pn), .ref yp, .int (nI bn), .ref yb, .ref yr, .ref yl])), (yp, .inl (cI, 12, .inl pf)), (yb, .inl (cI, 10, .inl bs)), (yr, .inl (cI, 10, .inl br)), (yl, .inl (cI, 16, .inl lv))] H ∧ va_D (fun _ => True) [(y, .inr (4, [.int th, .int (nI pn), .ref yp, .int (nI bn), .ref yb, .ref yr, .ref yl])), (yp, .inl (cI, 12, .inl pf)), (yb, .inl (cI, 10, .inl bs)), (yr, .inl (cI, 10, .inl br)), (yl, .inl (cI, 16, .inl lv))])) (va_Qi (fun (r9 : Int32) (_ : Unit) => r9 = (bv_if (if ¬ (2 ≤ pn) then 1 else 0) (bv_b (decide ((bv_mp lv (pf (pn - 2)) &&& bv_not (pf (pn - 1))) = 0))) 0)) (fun (_ : Unit) (T9 : State) => va_P G vwCl [(y, .inr (4, [.int (nI (if ¬ (2 ≤ pn) then 1 else 0)), .int (nI pn), .ref yp, .int (nI bn), .ref yb, .ref yr, .ref yl])), (yp, .inl (cI, 12, .inl pf)), (yb, .inl (cI, 10, .inl bs)), (yr, .inl (cI, 10, .inl br)), (yl, .inl (cI, 16, .inl lv))] T9.heap) (va_A [(y, .inr (4, [.int th, .int (nI pn), .ref yp, .int (nI bn), .ref yb, .ref yr, .ref yl])), (yp, .inl (cI, 12, .inl pf)), (yb, .inl (cI, 10, .inl bs)), (yr, .inl (cI, 10, .inl br)), (yl, .inl (cI, 16, .inl lv))] sz)) 0 0 (va_A [(y, .inr (4, [.int th, .int (nI pn), .ref yp, .int (nI bn), .ref yb, .ref yr, .ref yl])), (yp, .inl (cI, 12, .inl pf)), (yb, .inl (cI, 10, .inl bs)), (yr, .inl (cI, 10, .inl br)), (yl, .inl (cI, 16, .inl lv))] sz) := by
  refine Met.ofW (cc := cX4_would) (maxL := 2) (ret := (some .boolean)) (by decide) rfl ?_
  intro p e s m args below meth c s₁ B hml hv
  obtain ⟨rfl, ⟨hsz, hP, hD0⟩, hE⟩ := hv
  have hx := B.exec
  have hb := B.bytes
  have hr := B.returns
  have hts := atoms_spec (ws := wsX4_would) B.pre
  have hown : s.vm.findClass RX4 = some m.cls := findClass_of_methodNamed B.named
  have hlocks := B.notSynchronized
  have hK := hE.1
  have hw0 := hts (.fieldLink RX4 33 "BeliefReviserModel" "high" "I") (List.mem_of_getElem? (i := 1) rfl)
  have hw1 : ∀ w ∈ u_ws RX4 TX4 7, w ∈ wsX4_would := by decide +kernel
  have hw2 := hts (.fieldLink RX4 22 "BeliefReviserModel" "thrown" "I") (List.mem_of_getElem? (i := 2) rfl)
  subst hsz
  have hD := hD0.self (sz := s.heap.size)
  generalize hAe : va_A [(y, .inr (4, [.int th, .int (nI pn), .ref yp, .int (nI bn), .ref yb, .ref yr, .ref yl])), (yp, .inl (cI, 12, .inl pf)), (yb, .inl (cI, 10, .inl bs)), (yr, .inl (cI, 10, .inl br)), (yl, .inl (cI, 16, .inl lv))] s.heap.size = A at hD ⊢
  have hA : ∀ q : Nat, s.heap.size ≤ q → A q := fun q h => by rw [← hAe]; exact Or.inr h
  have hS : va_S A s.heap s.heap [] := va_S.rf
  have hP : va_P G vwCl [(y, .inr (4, [.int th, .int (nI pn), .ref yp, .int (nI bn), .ref yb, .ref yr, .ref yl])), (yp, .inl (cI, 12, .inl pf)), (yb, .inl (cI, 10, .inl bs)), (yr, .inl (cI, 10, .inl br)), (yl, .inl (cI, 16, .inl lv))] s.heap := hP
  have hl := lv_entry ([.ref y]) (n := 2) (Nat.le_of_ble_eq_true rfl)
  rw [lg_entry_eq]
  generalize (lg_sl ([.ref y]) ++ List.replicate (2 - (lg_sl ([.ref y])).length) Slot.unset).toArray = ls at hl ⊢
  have hl : lv_has ls 2 [(0, .ref y)] := hl
  refine lv_aload_n (pc := 0) hx hb dX4_would_0 rfl (lv_at hl 0 rfl) ?_
  refine lv_aload_n (pc := 1) hx hb dX4_would_1 rfl (lv_at hl 0 rfl) ?_
  refine va_get (pc := 2) (D := G) (ci := 4) (v := .int (nI pn)) (C := RX4) (T := TX4) (N := 7) hx hb hts hw1 hown hK hP 0 rfl rfl 1 (by decide) hw0 (fun _ h9 => h9) rfl dX4_would_2 ?_
  refine lv_iconst (pc := 5) (v := 2) hx hb dX4_would_5 (by decide) ?_
  refine lv_icmp_ge (pc := 6) (tgt := 13) hx hb dX4_would_6 (by decide) (fun c6_1 => ?_) (fun c6_1 => ?_)
  · have hck0 : 2 ≤ pn := by
      by_cases h : 2 ≤ pn
      · exact h
      · exact absurd (show nI 2 ≤ nI pn from c6_1) (nI_ge (by omega) (by decide))
    refine lv_iconst (pc := 13) (v := 0) hx hb dX4_would_13 (by decide) ?_
    refine va_put (pc := 14) (D := G) (ci := 4) (v := .int 0) (ty := .int) (C := RX4) (T := TX4) (N := 7) hx hb hts hw1 tyX4 tyX4_ok nmX4 hown hK hP hD hS 0 rfl rfl 0 (by decide) hw2 (fun _ h9 => h9) rfl (by decide +kernel) rfl rfl (Nat.le_of_ble_eq_true rfl) dX4_would_14 (fun H locs hP hD hS => ?_)
    have hP : va_P G vwCl [(y, .inr (4, [.int 0, .int (nI pn), .ref yp, .int (nI bn), .ref yb, .ref yr, .ref yl])), (yp, .inl (cI, 12, .inl pf)), (yb, .inl (cI, 10, .inl bs)), (yr, .inl (cI, 10, .inl br)), (yl, .inl (cI, 16, .inl lv))] H := hP
    have hD : va_D A [(y, .inr (4, [.int 0, .int (nI pn), .ref yp, .int (nI bn), .ref yb, .ref yr, .ref yl])), (yp, .inl (cI, 12, .inl pf)), (yb, .inl (cI, 10, .inl bs)), (yr, .inl (cI, 10, .inl br)), (yl, .inl (cI, 16, .inl lv))] := hD
    refine lv_aload_n (pc := 17) hx hb dX4_would_17 rfl (lv_at hl 0 rfl) ?_
    refine va_get (pc := 18) (D := G) (ci := 4) (v := .int 0) (C := RX4) (T := TX4) (N := 7) hx hb hts hw1 hown hK hP 0 rfl rfl 0 (by decide) hw2 (fun _ h9 => h9) rfl dX4_would_18 ?_
    refine lv_if_eq (pc := 21) (tgt := 26) hx hb dX4_would_21 (by decide) (fun c21_2 => ?_) (fun c21_2 => ?_)
    · refine lv_aload_n (pc := 26) hx hb dX4_would_26 rfl (lv_at hl 0 rfl) ?_
      refine lv_iconst (pc := 27) (v := 1) hx hb dX4_would_27 (by decide) ?_
      have hPc := hP.sub (ws' := [(y, .inr (4, [.int 0, .int (nI pn), .ref yp, .int (nI bn), .ref yb, .ref yr, .ref yl])), (yp, .inl (cI, 12, .inl pf))]) [0, 1] rfl
      refine bv_cSi (pc := 28) (E' := (pf (pn - 2))) (va_runV (As := [.int 1]) (rest := []) ⟨hx, hb, hml, hown, hts⟩ (m_X4_top l G cI y yp yb yr yl pn 0 (nI bn) pf 1 (by omega) hp) (cwV 1 hts gX4_would_X4_top rfl rfl rfl (by decide +kernel) ⟨Nat.le_of_ble_eq_true rfl, Nat.le_of_ble_eq_true rfl⟩) (bv_pV hE hPc (va_recv hK hP (ci := 4) (q0 := 0) rfl rfl)) rfl rfl hl.1 rfl (lv_room (Nat.le_of_ble_eq_true rfl)) dX4_would_28 ⟨Nat.le_of_ble_eq_true rfl, Nat.le_of_ble_eq_true rfl⟩) (by rw [Nat.sub_sub]) ?_
      refine lv_istore_n (pc := 31) (lv' := [(1, .int (pf (pn - 2))), (0, .ref y)]) hx hb dX4_would_31 rfl hl (by decide) rfl (fun ls hl => ?_)
      refine lv_iload_n (pc := 32) hx hb dX4_would_32 rfl (lv_at hl 0 rfl) ?_
      refine lv_if_eq (pc := 33) (tgt := 57) hx hb dX4_would_33 (by decide) (fun c33_5 => ?_) (fun c33_5 => ?_)
      · have h1 := c33_5
        refine lv_iconst (pc := 57) (v := 1) hx hb dX4_would_57 (by decide) ?_
        refine lv_goto (pc := 58) (tgt := 62) hx hb dX4_would_58 (by decide) ?_
        have hP9 : va_P G vwCl [(y, .inr (4, [.int (nI (if ¬ (2 ≤ pn) then 1 else 0)), .int (nI pn), .ref yp, .int (nI bn), .ref yb, .ref yr, .ref yl])), (yp, .inl (cI, 12, .inl pf)), (yb, .inl (cI, 10, .inl bs)), (yr, .inl (cI, 10, .inl br)), (yl, .inl (cI, 16, .inl lv))] H := by rw [if_neg (not_not_intro hck0)]; exact hP
        exact W.zret (pc := 62) (v := 1) hx hb hr rfl (fun T8 hT8 hW8 => ⟨⟨1, (), rfl, (by rw [if_neg (not_not_intro hck0), h1]; unfold bv_mp; rw [bv_wa0 lv _ 16 (Nat.le_refl _), Int32.zero_and]; rfl), bv_hP hT8 hP9⟩, hS.F hT8⟩) hS.2.2 dX4_would_62
      · have h1 := c33_5
        refine lv_aload_n (pc := 36) hx hb dX4_would_36 rfl (lv_at hl 1 rfl) ?_
        refine lv_iload_n (pc := 37) hx hb dX4_would_37 rfl (lv_at hl 0 rfl) ?_
        refine lv_aload_n (pc := 38) hx hb dX4_would_38 rfl (lv_at hl 1 rfl) ?_
        refine lv_iload_n (pc := 39) hx hb dX4_would_39 rfl (lv_at hl 0 rfl) ?_
        have hPc := hP.sub (ws' := [(y, .inr (4, [.int 0, .int (nI pn), .ref yp, .int (nI bn), .ref yb, .ref yr, .ref yl])), (yl, .inl (cI, 16, .inl lv))]) [0, 4] rfl
        refine bv_cSi (pc := 40) (E' := (bv_ll lv (pf (pn - 2)) 16)) (va_runV (As := [.int (pf (pn - 2))]) (rest := [.int (pf (pn - 2)), .ref y]) ⟨hx, hb, hml, hown, hts⟩ (m_X4_least l G cI y yp yb yr yl 0 (nI pn) (nI bn) lv (pf (pn - 2)) ) (cwV 1 hts gX4_would_X4_least rfl rfl rfl (by decide +kernel) ⟨Nat.le_of_ble_eq_true rfl, Nat.le_of_ble_eq_true rfl⟩) (bv_pV hE hPc (va_recv hK hP (ci := 4) (q0 := 0) rfl rfl)) rfl rfl hl.1 rfl (lv_room (Nat.le_of_ble_eq_true rfl)) dX4_would_40 ⟨Nat.le_of_ble_eq_true rfl, Nat.le_of_ble_eq_true rfl⟩) (bv_ls_eq hlv (hpf _ (by omega)) h1) ?_
        have hPc := hP.sub (ws' := [(y, .inr (4, [.int 0, .int (nI pn), .ref yp, .int (nI bn), .ref yb, .ref yr, .ref yl])), (yl, .inl (cI, 16, .inl lv))]) [0, 4] rfl
        refine bv_cSi (pc := 43) (E' := (bv_mp lv (pf (pn - 2)))) (va_runV (As := [.int (pf (pn - 2)), .int (bv_ll lv (pf (pn - 2)) 16)]) (rest := []) ⟨hx, hb, hml, hown, hts⟩ (m_X4_withLevel l G cI y yp yb yr yl 0 (nI pn) (nI bn) lv (pf (pn - 2)) (bv_ll lv (pf (pn - 2)) 16) ) (cwV 2 hts gX4_would_X4_withLevel rfl rfl rfl (by decide +kernel) ⟨Nat.le_of_ble_eq_true rfl, Nat.le_of_ble_eq_true rfl⟩) (bv_pV hE hPc (va_recv hK hP (ci := 4) (q0 := 0) rfl rfl)) rfl rfl hl.1 rfl (lv_room (Nat.le_of_ble_eq_true rfl)) dX4_would_43 ⟨Nat.le_of_ble_eq_true rfl, Nat.le_of_ble_eq_true rfl⟩) rfl ?_
        refine lv_aload_n (pc := 46) hx hb dX4_would_46 rfl (lv_at hl 1 rfl) ?_
        refine lv_iconst (pc := 47) (v := 0) hx hb dX4_would_47 (by decide) ?_
        have hPc := hP.sub (ws' := [(y, .inr (4, [.int 0, .int (nI pn), .ref yp, .int (nI bn), .ref yb, .ref yr, .ref yl])), (yp, .inl (cI, 12, .inl pf))]) [0, 1] rfl
        refine bv_cSi (pc := 48) (E' := (pf (pn - 1))) (va_runV (As := [.int 0]) (rest := [.int (bv_mp lv (pf (pn - 2)))]) ⟨hx, hb, hml, hown, hts⟩ (m_X4_top l G cI y yp yb yr yl pn 0 (nI bn) pf 0 (by omega) hp) (cwV 1 hts gX4_would_X4_top rfl rfl rfl (by decide +kernel) ⟨Nat.le_of_ble_eq_true rfl, Nat.le_of_ble_eq_true rfl⟩) (bv_pV hE hPc (va_recv hK hP (ci := 4) (q0 := 0) rfl rfl)) rfl rfl hl.1 rfl (lv_room (Nat.le_of_ble_eq_true rfl)) dX4_would_48 ⟨Nat.le_of_ble_eq_true rfl, Nat.le_of_ble_eq_true rfl⟩) (by rw [Nat.sub_zero]) ?_
        refine lv_iconst (pc := 51) (v := (-1)) hx hb dX4_would_51 (by decide) ?_
        refine lv_ixor (pc := 52) hx hb dX4_would_52 ?_
        refine lv_iand (pc := 53) hx hb dX4_would_53 ?_
        rw [show ((bv_mp lv (pf (pn - 2))) &&& ((pf (pn - 1)) ^^^ (-1))) = (bv_mp lv (pf (pn - 2)) &&& bv_not (pf (pn - 1))) from by unfold bv_not bv_mp; rw [← Int32.and_assoc, bv_wa16]]
        refine lv_if_ne (pc := 54) (tgt := 61) hx hb dX4_would_54 (by decide) (fun c54_12 => ?_) (fun c54_12 => ?_)
        · have h2 := c54_12
          refine lv_iconst (pc := 61) (v := 0) hx hb dX4_would_61 (by decide) ?_
          have hP9 : va_P G vwCl [(y, .inr (4, [.int (nI (if ¬ (2 ≤ pn) then 1 else 0)), .int (nI pn), .ref yp, .int (nI bn), .ref yb, .ref yr, .ref yl])), (yp, .inl (cI, 12, .inl pf)), (yb, .inl (cI, 10, .inl bs)), (yr, .inl (cI, 10, .inl br)), (yl, .inl (cI, 16, .inl lv))] H := by rw [if_neg (not_not_intro hck0)]; exact hP
          exact W.zret (pc := 62) (v := 0) hx hb hr rfl (fun T8 hT8 hW8 => ⟨⟨0, (), rfl, (by rw [if_neg (not_not_intro hck0), decide_eq_false h2]; rfl), bv_hP hT8 hP9⟩, hS.F hT8⟩) hS.2.2 dX4_would_62
        · have h2 := c54_12
          refine lv_iconst (pc := 57) (v := 1) hx hb dX4_would_57 (by decide) ?_
          refine lv_goto (pc := 58) (tgt := 62) hx hb dX4_would_58 (by decide) ?_
          have hP9 : va_P G vwCl [(y, .inr (4, [.int (nI (if ¬ (2 ≤ pn) then 1 else 0)), .int (nI pn), .ref yp, .int (nI bn), .ref yb, .ref yr, .ref yl])), (yp, .inl (cI, 12, .inl pf)), (yb, .inl (cI, 10, .inl bs)), (yr, .inl (cI, 10, .inl br)), (yl, .inl (cI, 16, .inl lv))] H := by rw [if_neg (not_not_intro hck0)]; exact hP
          exact W.zret (pc := 62) (v := 1) hx hb hr rfl (fun T8 hT8 hW8 => ⟨⟨1, (), rfl, (by rw [if_neg (not_not_intro hck0), decide_eq_true h2]; rfl), bv_hP hT8 hP9⟩, hS.F hT8⟩) hS.2.2 dX4_would_62
    · exact absurd rfl c21_2
  · have hbad : ¬ 2 ≤ pn := fun h => c6_1 (show nI 2 ≤ nI pn from nI_le h (by omega))
    refine lv_iconst (pc := 9) (v := 1) hx hb dX4_would_9 (by decide) ?_
    refine lv_goto (pc := 10) (tgt := 14) hx hb dX4_would_10 (by decide) ?_
    refine va_put (pc := 14) (D := G) (ci := 4) (v := .int 1) (ty := .int) (C := RX4) (T := TX4) (N := 7) hx hb hts hw1 tyX4 tyX4_ok nmX4 hown hK hP hD hS 0 rfl rfl 0 (by decide) hw2 (fun _ h9 => h9) rfl (by decide +kernel) rfl rfl (Nat.le_of_ble_eq_true rfl) dX4_would_14 (fun H locs hP hD hS => ?_)
    have hP : va_P G vwCl [(y, .inr (4, [.int 1, .int (nI pn), .ref yp, .int (nI bn), .ref yb, .ref yr, .ref yl])), (yp, .inl (cI, 12, .inl pf)), (yb, .inl (cI, 10, .inl bs)), (yr, .inl (cI, 10, .inl br)), (yl, .inl (cI, 16, .inl lv))] H := hP
    have hD : va_D A [(y, .inr (4, [.int 1, .int (nI pn), .ref yp, .int (nI bn), .ref yb, .ref yr, .ref yl])), (yp, .inl (cI, 12, .inl pf)), (yb, .inl (cI, 10, .inl bs)), (yr, .inl (cI, 10, .inl br)), (yl, .inl (cI, 16, .inl lv))] := hD
    refine lv_aload_n (pc := 17) hx hb dX4_would_17 rfl (lv_at hl 0 rfl) ?_
    refine va_get (pc := 18) (D := G) (ci := 4) (v := .int 1) (C := RX4) (T := TX4) (N := 7) hx hb hts hw1 hown hK hP 0 rfl rfl 0 (by decide) hw2 (fun _ h9 => h9) rfl dX4_would_18 ?_
    refine lv_if_eq (pc := 21) (tgt := 26) hx hb dX4_would_21 (by decide) (fun c21_13 => ?_) (fun c21_13 => ?_)
    · exact absurd c21_13 (by decide)
    · refine lv_iconst (pc := 24) (v := 0) hx hb dX4_would_24 (by decide) ?_
      have hP9 : va_P G vwCl [(y, .inr (4, [.int (nI (if ¬ (2 ≤ pn) then 1 else 0)), .int (nI pn), .ref yp, .int (nI bn), .ref yb, .ref yr, .ref yl])), (yp, .inl (cI, 12, .inl pf)), (yb, .inl (cI, 10, .inl bs)), (yr, .inl (cI, 10, .inl br)), (yl, .inl (cI, 16, .inl lv))] H := by rw [if_pos hbad]; exact hP
      exact W.zret (pc := 25) (v := 0) hx hb hr rfl (fun T8 hT8 hW8 => ⟨⟨0, (), rfl, (by rw [if_pos hbad]; rfl), bv_hP hT8 hP9⟩, hS.F hT8⟩) hS.2.2 dX4_would_25
