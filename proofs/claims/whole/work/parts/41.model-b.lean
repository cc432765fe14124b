set_option maxHeartbeats 4000000 in
set_option maxRecDepth 100000 in
theorem m_X4_atom (l : Launch) (G : va_G) (cI : ClassId) (sz : Nat) (y yp yb yr yl pn bn : Nat) (th : Int32) (pf bs br lv : Nat → Int32) (i : Int32) (hp : pn ≤ 12) (hn : bn ≤ 10) : Met l yX4_atom wsX4_atom ({ frames := 2, cells := 0, slots := 0, locals := 43 }) (bv_P [.ref y, .int i] G cI (fun H => H.size = sz ∧ va_P G vwCl [(y, .inr (4, [.int th, .int (nI pn), .ref yp, .int (nI bn), .ref yb, .ref yr, .ref yl])), (yp, .inl (cI, 12, .inl pf)), (yb, .inl (cI, 10, .inl bs)), (yr, .inl (cI, 10, .inl br)), (yl, .inl (cI, 16, .inl lv))] H ∧ va_D (fun _ => True) [(y, .inr (4, [.int th, .int (nI pn), .ref yp, .int (nI bn), .ref yb, .ref yr, .ref yl])), (yp, .inl (cI, 12, .inl pf)), (yb, .inl (cI, 10, .inl bs)), (yr, .inl (cI, 10, .inl br)), (yl, .inl (cI, 16, .inl lv))])) (va_Qi (fun (r9 : Int32) (_ : Unit) => r9 = (bv_if (if ¬ (0 ≤ i ∧ i ≤ 3) then 1 else (if ¬ (pn < 12) then 2 else 0)) (nI (pn + 1)) 0)) (fun (_ : Unit) (T9 : State) => va_P G vwCl [(y, .inr (4, [.int (nI (if ¬ (0 ≤ i ∧ i ≤ 3) then 1 else (if ¬ (pn < 12) then 2 else 0))), .int (nI (bv_if (if ¬ (0 ≤ i ∧ i ≤ 3) then 1 else (if ¬ (pn < 12) then 2 else 0)) (pn + 1) pn)), .ref yp, .int (nI bn), .ref yb, .ref yr, .ref yl])), (yp, .inl (cI, 12, .inl (bv_if (if ¬ (0 ≤ i ∧ i ≤ 3) then 1 else (if ¬ (pn < 12) then 2 else 0)) (upd pf pn (bv_at 4 bv_AW i)) pf))), (yb, .inl (cI, 10, .inl bs)), (yr, .inl (cI, 10, .inl br)), (yl, .inl (cI, 16, .inl lv))] T9.heap) (va_A [(y, .inr (4, [.int th, .int (nI pn), .ref yp, .int (nI bn), .ref yb, .ref yr, .ref yl])), (yp, .inl (cI, 12, .inl pf)), (yb, .inl (cI, 10, .inl bs)), (yr, .inl (cI, 10, .inl br)), (yl, .inl (cI, 16, .inl lv))] sz)) 0 0 (va_A [(y, .inr (4, [.int th, .int (nI pn), .ref yp, .int (nI bn), .ref yb, .ref yr, .ref yl])), (yp, .inl (cI, 12, .inl pf)), (yb, .inl (cI, 10, .inl bs)), (yr, .inl (cI, 10, .inl br)), (yl, .inl (cI, 16, .inl lv))] sz) := by
  refine Met.ofW (cc := cX4_atom) (maxL := 2) (ret := (some .int)) (by decide) rfl ?_
  intro p e s m args below meth c s₁ B hml hv
  obtain ⟨rfl, ⟨hsz, hP, hD0⟩, hE⟩ := hv
  have hx := B.exec
  have hb := B.bytes
  have hr := B.returns
  have hts := atoms_spec (ws := wsX4_atom) B.pre
  have hown : s.vm.findClass RX4 = some m.cls := findClass_of_methodNamed B.named
  have hlocks := B.notSynchronized
  have hK := hE.1
  have hw0 := hts (.fieldLink RX4 22 "BeliefReviserModel" "thrown" "I") (List.mem_of_getElem? (i := 1) rfl)
  have hw1 : ∀ w ∈ u_ws RX4 TX4 7, w ∈ wsX4_atom := by decide +kernel
  have hw2 := hts (.static yX4_isIn) (List.mem_of_getElem? (i := 3) rfl)
  have hw3 := hts (.static yX4_worldsOf) (List.mem_of_getElem? (i := 7) rfl)
  subst hsz
  have hD := hD0.self (sz := s.heap.size)
  generalize hAe : va_A [(y, .inr (4, [.int th, .int (nI pn), .ref yp, .int (nI bn), .ref yb, .ref yr, .ref yl])), (yp, .inl (cI, 12, .inl pf)), (yb, .inl (cI, 10, .inl bs)), (yr, .inl (cI, 10, .inl br)), (yl, .inl (cI, 16, .inl lv))] s.heap.size = A at hD ⊢
  have hA : ∀ q : Nat, s.heap.size ≤ q → A q := fun q h => by rw [← hAe]; exact Or.inr h
  have hS : va_S A s.heap s.heap [] := va_S.rf
  have hP : va_P G vwCl [(y, .inr (4, [.int th, .int (nI pn), .ref yp, .int (nI bn), .ref yb, .ref yr, .ref yl])), (yp, .inl (cI, 12, .inl pf)), (yb, .inl (cI, 10, .inl bs)), (yr, .inl (cI, 10, .inl br)), (yl, .inl (cI, 16, .inl lv))] s.heap := hP
  have hl := lv_entry ([.ref y, .int i]) (n := 2) (Nat.le_of_ble_eq_true rfl)
  rw [lg_entry_eq]
  generalize (lg_sl ([.ref y, .int i]) ++ List.replicate (2 - (lg_sl ([.ref y, .int i])).length) Slot.unset).toArray = ls at hl ⊢
  have hl : lv_has ls 2 [(0, .ref y), (1, .int i)] := hl
  refine lv_aload_n (pc := 0) hx hb dX4_atom_0 rfl (lv_at hl 0 rfl) ?_
  refine lv_iconst (pc := 1) (v := 0) hx hb dX4_atom_1 (by decide) ?_
  refine va_put (pc := 2) (D := G) (ci := 4) (v := .int 0) (ty := .int) (C := RX4) (T := TX4) (N := 7) hx hb hts hw1 tyX4 tyX4_ok nmX4 hown hK hP hD hS 0 rfl rfl 0 (by decide) hw0 (fun _ h9 => h9) rfl (by decide +kernel) rfl rfl (Nat.le_of_ble_eq_true rfl) dX4_atom_2 (fun H locs hP hD hS => ?_)
  have hP : va_P G vwCl [(y, .inr (4, [.int 0, .int (nI pn), .ref yp, .int (nI bn), .ref yb, .ref yr, .ref yl])), (yp, .inl (cI, 12, .inl pf)), (yb, .inl (cI, 10, .inl bs)), (yr, .inl (cI, 10, .inl br)), (yl, .inl (cI, 16, .inl lv))] H := hP
  have hD : va_D A [(y, .inr (4, [.int 0, .int (nI pn), .ref yp, .int (nI bn), .ref yb, .ref yr, .ref yl])), (yp, .inl (cI, 12, .inl pf)), (yb, .inl (cI, 10, .inl bs)), (yr, .inl (cI, 10, .inl br)), (yl, .inl (cI, 16, .inl lv))] := hD
  refine lv_iload_n (pc := 5) hx hb dX4_atom_5 rfl (lv_at hl 1 rfl) ?_
  refine lv_iconst (pc := 6) (v := 0) hx hb dX4_atom_6 (by decide) ?_
  refine lv_iconst (pc := 7) (v := 3) hx hb dX4_atom_7 (by decide) ?_
  have hPc := hP.sub (ws' := []) [] rfl
  refine bv_cSi (pc := 8) (E' := (bv_b (decide (0 ≤ i ∧ i ≤ 3)))) (va_runS (As := [.int i, .int 0, .int 3]) (rest := []) ⟨hx, hb, hml, hown, hts⟩ (m_X4_isIn l G cI i 0 3 ) (va_cwS 3 hts gX4_atom_X4_isIn rfl rfl rfl (by decide +kernel) ⟨Nat.le_of_ble_eq_true rfl, Nat.le_of_ble_eq_true rfl⟩) (bv_pS hE hPc) rfl rfl hl.1 rfl (lv_room (Nat.le_of_ble_eq_true rfl)) dX4_atom_8 ⟨Nat.le_of_ble_eq_true rfl, Nat.le_of_ble_eq_true rfl⟩) rfl ?_
  refine lv_if_eq (pc := 11) (tgt := 26) hx hb dX4_atom_11 (by decide) (fun c11_3 => ?_) (fun c11_3 => ?_)
  · have hbad := of_decide_eq_false (bv_b0.mp c11_3)
    refine lv_aload_n (pc := 26) hx hb dX4_atom_26 rfl (lv_at hl 0 rfl) ?_
    refine lv_iconst (pc := 27) (v := 1) hx hb dX4_atom_27 (by decide) ?_
    have hPc := hP.sub (ws' := [(y, .inr (4, [.int 0, .int (nI pn), .ref yp, .int (nI bn), .ref yb, .ref yr, .ref yl]))]) [0] rfl
    have hDc := hD.sub (ws' := [(y, .inr (4, [.int 0, .int (nI pn), .ref yp, .int (nI bn), .ref yb, .ref yr, .ref yl]))]) [0] (by decide) rfl
    have hFc := va_free (wc := [(y, .inr (4, [.int 0, .int (nI pn), .ref yp, .int (nI bn), .ref yb, .ref yr, .ref yl]))]) hD hS hA [0] rfl
    refine bv_cMi (pc := 28) (E' := 0) (va_runV (As := [.int 1]) (rest := []) ⟨hx, hb, hml, hown, hts⟩ (m_X4_no l G cI H.size y yp yb yr yl 0 (nI pn) (nI bn) 1 ) (cwV 1 hts gX4_atom_X4_no rfl rfl rfl (by decide +kernel) ⟨Nat.le_of_ble_eq_true rfl, Nat.le_of_ble_eq_true rfl⟩) (bv_pV hE ⟨rfl, hPc, hDc.weaken (fun _ _ _ _ => trivial)⟩ (va_recv hK hP (ci := 4) (q0 := 0) rfl rfl)) rfl rfl hl.1 rfl (lv_room (Nat.le_of_ble_eq_true rfl)) dX4_atom_28 ⟨Nat.le_of_ble_eq_true rfl, Nat.le_of_ble_eq_true rfl⟩) hS (fun q _ h => hFc q h) hFc rfl (fun t8 H1 locs ht8 hvm8 hB8 hz1 hk1 hS => ?_)
    have hP1 : va_P G vwCl [(y, .inr (4, [.int 1, .int (nI pn), .ref yp, .int (nI bn), .ref yb, .ref yr, .ref yl]))] H1 := by rw [← ht8]; exact hB8
    obtain ⟨hP, hD⟩ := va_join (wr := [(yp, .inl (cI, 12, .inl pf)), (yb, .inl (cI, 10, .inl bs)), (yr, .inl (cI, 10, .inl br)), (yl, .inl (cI, 16, .inl lv))]) (w1 := [(y, .inr (4, [.int 1, .int (nI pn), .ref yp, .int (nI bn), .ref yb, .ref yr, .ref yl]))]) hP hD [0] [1, 2, 3, 4] rfl rfl (by decide) (by decide) hk1 hFc hP1 (bv_Dm (w0 := [(y, .inr (4, [.int 0, .int (nI pn), .ref yp, .int (nI bn), .ref yb, .ref yr, .ref yl]))]) [y] rfl rfl hDc.self)
    have hP : va_P G vwCl [(y, .inr (4, [.int 1, .int (nI pn), .ref yp, .int (nI bn), .ref yb, .ref yr, .ref yl])), (yp, .inl (cI, 12, .inl pf)), (yb, .inl (cI, 10, .inl bs)), (yr, .inl (cI, 10, .inl br)), (yl, .inl (cI, 16, .inl lv))] H1 := hP.sub (ws' := [(y, .inr (4, [.int 1, .int (nI pn), .ref yp, .int (nI bn), .ref yb, .ref yr, .ref yl])), (yp, .inl (cI, 12, .inl pf)), (yb, .inl (cI, 10, .inl bs)), (yr, .inl (cI, 10, .inl br)), (yl, .inl (cI, 16, .inl lv))]) [4, 0, 1, 2, 3] rfl
    have hD : va_D A [(y, .inr (4, [.int 1, .int (nI pn), .ref yp, .int (nI bn), .ref yb, .ref yr, .ref yl])), (yp, .inl (cI, 12, .inl pf)), (yb, .inl (cI, 10, .inl bs)), (yr, .inl (cI, 10, .inl br)), (yl, .inl (cI, 16, .inl lv))] := hD.sub (ws' := [(y, .inr (4, [.int 1, .int (nI pn), .ref yp, .int (nI bn), .ref yb, .ref yr, .ref yl])), (yp, .inl (cI, 12, .inl pf)), (yb, .inl (cI, 10, .inl bs)), (yr, .inl (cI, 10, .inl br)), (yl, .inl (cI, 16, .inl lv))]) [4, 0, 1, 2, 3] (by decide) rfl
    generalize H1 = H at hP hS ⊢
    have hP9 : va_P G vwCl [(y, .inr (4, [.int (nI (if ¬ (0 ≤ i ∧ i ≤ 3) then 1 else (if ¬ (pn < 12) then 2 else 0))), .int (nI (bv_if (if ¬ (0 ≤ i ∧ i ≤ 3) then 1 else (if ¬ (pn < 12) then 2 else 0)) (pn + 1) pn)), .ref yp, .int (nI bn), .ref yb, .ref yr, .ref yl])), (yp, .inl (cI, 12, .inl (bv_if (if ¬ (0 ≤ i ∧ i ≤ 3) then 1 else (if ¬ (pn < 12) then 2 else 0)) (upd pf pn (bv_at 4 bv_AW i)) pf))), (yb, .inl (cI, 10, .inl bs)), (yr, .inl (cI, 10, .inl br)), (yl, .inl (cI, 16, .inl lv))] H := by rw [if_pos hbad]; exact hP
    exact W.iret (pc := 31) (v := 0) hx hb hr (fun T8 hT8 hW8 => ⟨⟨0, (), rfl, (by rw [if_pos hbad]; rfl), bv_hP hT8 hP9⟩, hS.F hT8⟩) hS.2.2 dX4_atom_31
  · have hck0 := of_decide_eq_true (bv_b1.mp c11_3)
    refine lv_aload_n (pc := 14) hx hb dX4_atom_14 rfl (lv_at hl 0 rfl) ?_
    refine lv_iload_n (pc := 15) hx hb dX4_atom_15 rfl (lv_at hl 1 rfl) ?_
    have hPc := hP.sub (ws' := []) [] rfl
    refine bv_cSi (pc := 16) (E' := (bv_at 4 bv_AW i)) (va_runS (As := [.int i]) (rest := [.ref y]) ⟨hx, hb, hml, hown, hts⟩ (m_X4_worldsOf l G cI i hck0) (va_cwS 1 hts gX4_atom_X4_worldsOf rfl rfl rfl (by decide +kernel) ⟨Nat.le_of_ble_eq_true rfl, Nat.le_of_ble_eq_true rfl⟩) (bv_pS hE hPc) rfl rfl hl.1 rfl (lv_room (Nat.le_of_ble_eq_true rfl)) dX4_atom_16 ⟨Nat.le_of_ble_eq_true rfl, Nat.le_of_ble_eq_true rfl⟩) rfl ?_
    by_cases hck1 : pn < 12
    · refine lv_iconst (pc := 19) (v := 2) hx hb dX4_atom_19 (by decide) ?_
      have hPc := hP.sub (ws' := [(y, .inr (4, [.int 0, .int (nI pn), .ref yp, .int (nI bn), .ref yb, .ref yr, .ref yl])), (yp, .inl (cI, 12, .inl pf))]) [0, 1] rfl
      have hDc := hD.sub (ws' := [(y, .inr (4, [.int 0, .int (nI pn), .ref yp, .int (nI bn), .ref yb, .ref yr, .ref yl])), (yp, .inl (cI, 12, .inl pf))]) [0, 1] (by decide) rfl
      have hFc := va_free (wc := [(y, .inr (4, [.int 0, .int (nI pn), .ref yp, .int (nI bn), .ref yb, .ref yr, .ref yl])), (yp, .inl (cI, 12, .inl pf))]) hD hS hA [0, 1] rfl
      refine bv_cMi (pc := 20) (E' := (nI (pn + 1))) (va_runV (As := [.int (bv_at 4 bv_AW i), .int 2]) (rest := []) ⟨hx, hb, hml, hown, hts⟩ (m_X4_push_p l G cI H.size y yp yb yr yl pn 0 (nI bn) pf (bv_at 4 bv_AW i) 2 (by first | assumption | omega) (by first | assumption | omega)) (cwV 2 hts gX4_atom_X4_push rfl rfl rfl (by decide +kernel) ⟨Nat.le_of_ble_eq_true rfl, Nat.le_of_ble_eq_true rfl⟩) (bv_pV hE ⟨rfl, hPc, hDc.weaken (fun _ _ _ _ => trivial)⟩ (va_recv hK hP (ci := 4) (q0 := 0) rfl rfl)) rfl rfl hl.1 rfl (lv_room (Nat.le_of_ble_eq_true rfl)) dX4_atom_20 ⟨Nat.le_of_ble_eq_true rfl, Nat.le_of_ble_eq_true rfl⟩) hS (fun q _ h => hFc q h) hFc rfl (fun t8 H1 locs ht8 hvm8 hB8 hz1 hk1 hS => ?_)
      have hP1 : va_P G vwCl [(y, .inr (4, [.int 0, .int (nI (pn + 1)), .ref yp, .int (nI bn), .ref yb, .ref yr, .ref yl])), (yp, .inl (cI, 12, .inl (upd pf pn (bv_at 4 bv_AW i))))] H1 := by rw [← ht8]; exact hB8
      obtain ⟨hP, hD⟩ := va_join (wr := [(yb, .inl (cI, 10, .inl bs)), (yr, .inl (cI, 10, .inl br)), (yl, .inl (cI, 16, .inl lv))]) (w1 := [(y, .inr (4, [.int 0, .int (nI (pn + 1)), .ref yp, .int (nI bn), .ref yb, .ref yr, .ref yl])), (yp, .inl (cI, 12, .inl (upd pf pn (bv_at 4 bv_AW i))))]) hP hD [0, 1] [2, 3, 4] rfl rfl (by decide) (by decide) hk1 hFc hP1 (bv_Dm (w0 := [(y, .inr (4, [.int 0, .int (nI pn), .ref yp, .int (nI bn), .ref yb, .ref yr, .ref yl])), (yp, .inl (cI, 12, .inl pf))]) [y, yp] rfl rfl hDc.self)
      have hP : va_P G vwCl [(y, .inr (4, [.int 0, .int (nI (pn + 1)), .ref yp, .int (nI bn), .ref yb, .ref yr, .ref yl])), (yp, .inl (cI, 12, .inl (upd pf pn (bv_at 4 bv_AW i)))), (yb, .inl (cI, 10, .inl bs)), (yr, .inl (cI, 10, .inl br)), (yl, .inl (cI, 16, .inl lv))] H1 := hP.sub (ws' := [(y, .inr (4, [.int 0, .int (nI (pn + 1)), .ref yp, .int (nI bn), .ref yb, .ref yr, .ref yl])), (yp, .inl (cI, 12, .inl (upd pf pn (bv_at 4 bv_AW i)))), (yb, .inl (cI, 10, .inl bs)), (yr, .inl (cI, 10, .inl br)), (yl, .inl (cI, 16, .inl lv))]) [3, 4, 0, 1, 2] rfl
      have hD : va_D A [(y, .inr (4, [.int 0, .int (nI (pn + 1)), .ref yp, .int (nI bn), .ref yb, .ref yr, .ref yl])), (yp, .inl (cI, 12, .inl (upd pf pn (bv_at 4 bv_AW i)))), (yb, .inl (cI, 10, .inl bs)), (yr, .inl (cI, 10, .inl br)), (yl, .inl (cI, 16, .inl lv))] := hD.sub (ws' := [(y, .inr (4, [.int 0, .int (nI (pn + 1)), .ref yp, .int (nI bn), .ref yb, .ref yr, .ref yl])), (yp, .inl (cI, 12, .inl (upd pf pn (bv_at 4 bv_AW i)))), (yb, .inl (cI, 10, .inl bs)), (yr, .inl (cI, 10, .inl br)), (yl, .inl (cI, 16, .inl lv))]) [3, 4, 0, 1, 2] (by decide) rfl
      generalize H1 = H at hP hS ⊢
      refine lv_goto (pc := 23) (tgt := 31) hx hb dX4_atom_23 (by decide) ?_
      have hP9 : va_P G vwCl [(y, .inr (4, [.int (nI (if ¬ (0 ≤ i ∧ i ≤ 3) then 1 else (if ¬ (pn < 12) then 2 else 0))), .int (nI (bv_if (if ¬ (0 ≤ i ∧ i ≤ 3) then 1 else (if ¬ (pn < 12) then 2 else 0)) (pn + 1) pn)), .ref yp, .int (nI bn), .ref yb, .ref yr, .ref yl])), (yp, .inl (cI, 12, .inl (bv_if (if ¬ (0 ≤ i ∧ i ≤ 3) then 1 else (if ¬ (pn < 12) then 2 else 0)) (upd pf pn (bv_at 4 bv_AW i)) pf))), (yb, .inl (cI, 10, .inl bs)), (yr, .inl (cI, 10, .inl br)), (yl, .inl (cI, 16, .inl lv))] H := by rw [if_neg (not_not_intro hck0), if_neg (not_not_intro hck1)]; exact hP
      exact W.iret (pc := 31) (v := (nI (pn + 1))) hx hb hr (fun T8 hT8 hW8 => ⟨⟨(nI (pn + 1)), (), rfl, (by rw [if_neg (not_not_intro hck0), if_neg (not_not_intro hck1)]; rfl), bv_hP hT8 hP9⟩, hS.F hT8⟩) hS.2.2 dX4_atom_31
    · have hbad := hck1
      refine lv_iconst (pc := 19) (v := 2) hx hb dX4_atom_19 (by decide) ?_
      have hPc := hP.sub (ws' := [(y, .inr (4, [.int 0, .int (nI pn), .ref yp, .int (nI bn), .ref yb, .ref yr, .ref yl])), (yp, .inl (cI, 12, .inl pf))]) [0, 1] rfl
      have hDc := hD.sub (ws' := [(y, .inr (4, [.int 0, .int (nI pn), .ref yp, .int (nI bn), .ref yb, .ref yr, .ref yl])), (yp, .inl (cI, 12, .inl pf))]) [0, 1] (by decide) rfl
      have hFc := va_free (wc := [(y, .inr (4, [.int 0, .int (nI pn), .ref yp, .int (nI bn), .ref yb, .ref yr, .ref yl])), (yp, .inl (cI, 12, .inl pf))]) hD hS hA [0, 1] rfl
      refine bv_cMi (pc := 20) (E' := 0) (va_runV (As := [.int (bv_at 4 bv_AW i), .int 2]) (rest := []) ⟨hx, hb, hml, hown, hts⟩ (m_X4_push_n l G cI H.size y yp yb yr yl pn 0 (nI bn) pf (bv_at 4 bv_AW i) 2 (by first | assumption | omega) (by first | assumption | omega)) (cwV 2 hts gX4_atom_X4_push rfl rfl rfl (by decide +kernel) ⟨Nat.le_of_ble_eq_true rfl, Nat.le_of_ble_eq_true rfl⟩) (bv_pV hE ⟨rfl, hPc, hDc.weaken (fun _ _ _ _ => trivial)⟩ (va_recv hK hP (ci := 4) (q0 := 0) rfl rfl)) rfl rfl hl.1 rfl (lv_room (Nat.le_of_ble_eq_true rfl)) dX4_atom_20 ⟨Nat.le_of_ble_eq_true rfl, Nat.le_of_ble_eq_true rfl⟩) hS (fun q _ h => hFc q h) hFc rfl (fun t8 H1 locs ht8 hvm8 hB8 hz1 hk1 hS => ?_)
      have hP1 : va_P G vwCl [(y, .inr (4, [.int 2, .int (nI pn), .ref yp, .int (nI bn), .ref yb, .ref yr, .ref yl])), (yp, .inl (cI, 12, .inl pf))] H1 := by rw [← ht8]; exact hB8
      obtain ⟨hP, hD⟩ := va_join (wr := [(yb, .inl (cI, 10, .inl bs)), (yr, .inl (cI, 10, .inl br)), (yl, .inl (cI, 16, .inl lv))]) (w1 := [(y, .inr (4, [.int 2, .int (nI pn), .ref yp, .int (nI bn), .ref yb, .ref yr, .ref yl])), (yp, .inl (cI, 12, .inl pf))]) hP hD [0, 1] [2, 3, 4] rfl rfl (by decide) (by decide) hk1 hFc hP1 (bv_Dm (w0 := [(y, .inr (4, [.int 0, .int (nI pn), .ref yp, .int (nI bn), .ref yb, .ref yr, .ref yl])), (yp, .inl (cI, 12, .inl pf))]) [y, yp] rfl rfl hDc.self)
      have hP : va_P G vwCl [(y, .inr (4, [.int 2, .int (nI pn), .ref yp, .int (nI bn), .ref yb, .ref yr, .ref yl])), (yp, .inl (cI, 12, .inl pf)), (yb, .inl (cI, 10, .inl bs)), (yr, .inl (cI, 10, .inl br)), (yl, .inl (cI, 16, .inl lv))] H1 := hP.sub (ws' := [(y, .inr (4, [.int 2, .int (nI pn), .ref yp, .int (nI bn), .ref yb, .ref yr, .ref yl])), (yp, .inl (cI, 12, .inl pf)), (yb, .inl (cI, 10, .inl bs)), (yr, .inl (cI, 10, .inl br)), (yl, .inl (cI, 16, .inl lv))]) [3, 4, 0, 1, 2] rfl
      have hD : va_D A [(y, .inr (4, [.int 2, .int (nI pn), .ref yp, .int (nI bn), .ref yb, .ref yr, .ref yl])), (yp, .inl (cI, 12, .inl pf)), (yb, .inl (cI, 10, .inl bs)), (yr, .inl (cI, 10, .inl br)), (yl, .inl (cI, 16, .inl lv))] := hD.sub (ws' := [(y, .inr (4, [.int 2, .int (nI pn), .ref yp, .int (nI bn), .ref yb, .ref yr, .ref yl])), (yp, .inl (cI, 12, .inl pf)), (yb, .inl (cI, 10, .inl bs)), (yr, .inl (cI, 10, .inl br)), (yl, .inl (cI, 16, .inl lv))]) [3, 4, 0, 1, 2] (by decide) rfl
      generalize H1 = H at hP hS ⊢
      refine lv_goto (pc := 23) (tgt := 31) hx hb dX4_atom_23 (by decide) ?_
      have hP9 : va_P G vwCl [(y, .inr (4, [.int (nI (if ¬ (0 ≤ i ∧ i ≤ 3) then 1 else (if ¬ (pn < 12) then 2 else 0))), .int (nI (bv_if (if ¬ (0 ≤ i ∧ i ≤ 3) then 1 else (if ¬ (pn < 12) then 2 else 0)) (pn + 1) pn)), .ref yp, .int (nI bn), .ref yb, .ref yr, .ref yl])), (yp, .inl (cI, 12, .inl (bv_if (if ¬ (0 ≤ i ∧ i ≤ 3) then 1 else (if ¬ (pn < 12) then 2 else 0)) (upd pf pn (bv_at 4 bv_AW i)) pf))), (yb, .inl (cI, 10, .inl bs)), (yr, .inl (cI, 10, .inl br)), (yl, .inl (cI, 16, .inl lv))] H := by rw [if_neg (not_not_intro hck0), if_pos hbad]; exact hP
      exact W.iret (pc := 31) (v := 0) hx hb hr (fun T8 hT8 hW8 => ⟨⟨0, (), rfl, (by rw [if_neg (not_not_intro hck0), if_pos hbad]; rfl), bv_hP hT8 hP9⟩, hS.F hT8⟩) hS.2.2 dX4_atom_31
set_option maxHeartbeats 4000000 in
set_option maxRecDepth 100000 in
theorem m_X4_constant (l : Launch) (G : va_G) (cI : ClassId) (sz : Nat) (y yp yb yr yl pn bn : Nat) (th : Int32) (pf bs br lv : Nat → Int32) (b : Bool) (hp : pn ≤ 12) (hn : bn ≤ 10) : Met l yX4_constant wsX4_constant ({ frames := 2, cells := 0, slots := 0, locals := 43 }) (bv_P [.ref y, .int (bv_b b)] G cI (fun H => H.size = sz ∧ va_P G vwCl [(y, .inr (4, [.int th, .int (nI pn), .ref yp, .int (nI bn), .ref yb, .ref yr, .ref yl])), (yp, .inl (cI, 12, .inl pf)), (yb, .inl (cI, 10, .inl bs)), (yr, .inl (cI, 10, .inl br)), (yl, .inl (cI, 16, .inl lv))] H ∧ va_D (fun _ => True) [(y, .inr (4, [.int th, .int (nI pn), .ref yp, .int (nI bn), .ref yb, .ref yr, .ref yl])), (yp, .inl (cI, 12, .inl pf)), (yb, .inl (cI, 10, .inl bs)), (yr, .inl (cI, 10, .inl br)), (yl, .inl (cI, 16, .inl lv))])) (va_Qi (fun (r9 : Int32) (_ : Unit) => r9 = (bv_if (if ¬ (pn < 12) then 1 else 0) (nI (pn + 1)) 0)) (fun (_ : Unit) (T9 : State) => va_P G vwCl [(y, .inr (4, [.int (nI (if ¬ (pn < 12) then 1 else 0)), .int (nI (bv_if (if ¬ (pn < 12) then 1 else 0) (pn + 1) pn)), .ref yp, .int (nI bn), .ref yb, .ref yr, .ref yl])), (yp, .inl (cI, 12, .inl (bv_if (if ¬ (pn < 12) then 1 else 0) (upd pf pn (bv_cst b)) pf))), (yb, .inl (cI, 10, .inl bs)), (yr, .inl (cI, 10, .inl br)), (yl, .inl (cI, 16, .inl lv))] T9.heap) (va_A [(y, .inr (4, [.int th, .int (nI pn), .ref yp, .int (nI bn), .ref yb, .ref yr, .ref yl])), (yp, .inl (cI, 12, .inl pf)), (yb, .inl (cI, 10, .inl bs)), (yr, .inl (cI, 10, .inl br)), (yl, .inl (cI, 16, .inl lv))] sz)) 0 0 (va_A [(y, .inr (4, [.int th, .int (nI pn), .ref yp, .int (nI bn), .ref yb, .ref yr, .ref yl])), (yp, .inl (cI, 12, .inl pf)), (yb, .inl (cI, 10, .inl bs)), (yr, .inl (cI, 10, .inl br)), (yl, .inl (cI, 16, .inl lv))] sz) := by
  refine Met.ofW (cc := cX4_constant) (maxL := 2) (ret := (some .int)) (by decide) rfl ?_
  intro p e s m args below meth c s₁ B hml hv
  obtain ⟨rfl, ⟨hsz, hP, hD0⟩, hE⟩ := hv
  have hx := B.exec
  have hb := B.bytes
  have hr := B.returns
  have hts := atoms_spec (ws := wsX4_constant) B.pre
  have hown : s.vm.findClass RX4 = some m.cls := findClass_of_methodNamed B.named
  have hlocks := B.notSynchronized
  have hK := hE.1
  have hw0 := hts (.fieldLink RX4 22 "BeliefReviserModel" "thrown" "I") (List.mem_of_getElem? (i := 1) rfl)
  have hw1 : ∀ w ∈ u_ws RX4 TX4 7, w ∈ wsX4_constant := by decide +kernel
  have hw2 := hts (.constant RX4 51 65535) (List.mem_of_getElem? (i := 2) rfl)
  subst hsz
  have hD := hD0.self (sz := s.heap.size)
  generalize hAe : va_A [(y, .inr (4, [.int th, .int (nI pn), .ref yp, .int (nI bn), .ref yb, .ref yr, .ref yl])), (yp, .inl (cI, 12, .inl pf)), (yb, .inl (cI, 10, .inl bs)), (yr, .inl (cI, 10, .inl br)), (yl, .inl (cI, 16, .inl lv))] s.heap.size = A at hD ⊢
  have hA : ∀ q : Nat, s.heap.size ≤ q → A q := fun q h => by rw [← hAe]; exact Or.inr h
  have hS : va_S A s.heap s.heap [] := va_S.rf
  have hP : va_P G vwCl [(y, .inr (4, [.int th, .int (nI pn), .ref yp, .int (nI bn), .ref yb, .ref yr, .ref yl])), (yp, .inl (cI, 12, .inl pf)), (yb, .inl (cI, 10, .inl bs)), (yr, .inl (cI, 10, .inl br)), (yl, .inl (cI, 16, .inl lv))] s.heap := hP
  have hl := lv_entry ([.ref y, .int (bv_b b)]) (n := 2) (Nat.le_of_ble_eq_true rfl)
  rw [lg_entry_eq]
  generalize (lg_sl ([.ref y, .int (bv_b b)]) ++ List.replicate (2 - (lg_sl ([.ref y, .int (bv_b b)])).length) Slot.unset).toArray = ls at hl ⊢
  have hl : lv_has ls 2 [(0, .ref y), (1, .int (bv_b b))] := hl
  refine lv_aload_n (pc := 0) hx hb dX4_constant_0 rfl (lv_at hl 0 rfl) ?_
  refine lv_iconst (pc := 1) (v := 0) hx hb dX4_constant_1 (by decide) ?_
  refine va_put (pc := 2) (D := G) (ci := 4) (v := .int 0) (ty := .int) (C := RX4) (T := TX4) (N := 7) hx hb hts hw1 tyX4 tyX4_ok nmX4 hown hK hP hD hS 0 rfl rfl 0 (by decide) hw0 (fun _ h9 => h9) rfl (by decide +kernel) rfl rfl (Nat.le_of_ble_eq_true rfl) dX4_constant_2 (fun H locs hP hD hS => ?_)
  have hP : va_P G vwCl [(y, .inr (4, [.int 0, .int (nI pn), .ref yp, .int (nI bn), .ref yb, .ref yr, .ref yl])), (yp, .inl (cI, 12, .inl pf)), (yb, .inl (cI, 10, .inl bs)), (yr, .inl (cI, 10, .inl br)), (yl, .inl (cI, 16, .inl lv))] H := hP
  have hD : va_D A [(y, .inr (4, [.int 0, .int (nI pn), .ref yp, .int (nI bn), .ref yb, .ref yr, .ref yl])), (yp, .inl (cI, 12, .inl pf)), (yb, .inl (cI, 10, .inl bs)), (yr, .inl (cI, 10, .inl br)), (yl, .inl (cI, 16, .inl lv))] := hD
  refine lv_aload_n (pc := 5) hx hb dX4_constant_5 rfl (lv_at hl 0 rfl) ?_
  refine lv_iload_n (pc := 6) hx hb dX4_constant_6 rfl (lv_at hl 1 rfl) ?_
  refine lv_if_eq (pc := 7) (tgt := 15) hx hb dX4_constant_7 (by decide) (fun c7_1 => ?_) (fun c7_1 => ?_)
  · have h1 := bv_b0.mp c7_1
    refine lv_iconst (pc := 15) (v := 0) hx hb dX4_constant_15 (by decide) ?_
    by_cases hck0 : pn < 12
    · refine lv_iconst (pc := 16) (v := 1) hx hb dX4_constant_16 (by decide) ?_
      have hPc := hP.sub (ws' := [(y, .inr (4, [.int 0, .int (nI pn), .ref yp, .int (nI bn), .ref yb, .ref yr, .ref yl])), (yp, .inl (cI, 12, .inl pf))]) [0, 1] rfl
      have hDc := hD.sub (ws' := [(y, .inr (4, [.int 0, .int (nI pn), .ref yp, .int (nI bn), .ref yb, .ref yr, .ref yl])), (yp, .inl (cI, 12, .inl pf))]) [0, 1] (by decide) rfl
      have hFc := va_free (wc := [(y, .inr (4, [.int 0, .int (nI pn), .ref yp, .int (nI bn), .ref yb, .ref yr, .ref yl])), (yp, .inl (cI, 12, .inl pf))]) hD hS hA [0, 1] rfl
      refine bv_cMi (pc := 17) (E' := (nI (pn + 1))) (va_runV (As := [.int 0, .int 1]) (rest := []) ⟨hx, hb, hml, hown, hts⟩ (m_X4_push_p l G cI H.size y yp yb yr yl pn 0 (nI bn) pf 0 1 (by first | assumption | omega) (by first | assumption | omega)) (cwV 2 hts gX4_constant_X4_push rfl rfl rfl (by decide +kernel) ⟨Nat.le_of_ble_eq_true rfl, Nat.le_of_ble_eq_true rfl⟩) (bv_pV hE ⟨rfl, hPc, hDc.weaken (fun _ _ _ _ => trivial)⟩ (va_recv hK hP (ci := 4) (q0 := 0) rfl rfl)) rfl rfl hl.1 rfl (lv_room (Nat.le_of_ble_eq_true rfl)) dX4_constant_17 ⟨Nat.le_of_ble_eq_true rfl, Nat.le_of_ble_eq_true rfl⟩) hS (fun q _ h => hFc q h) hFc rfl (fun t8 H1 locs ht8 hvm8 hB8 hz1 hk1 hS => ?_)
      have hP1 : va_P G vwCl [(y, .inr (4, [.int 0, .int (nI (pn + 1)), .ref yp, .int (nI bn), .ref yb, .ref yr, .ref yl])), (yp, .inl (cI, 12, .inl (upd pf pn 0)))] H1 := by rw [← ht8]; exact hB8
      obtain ⟨hP, hD⟩ := va_join (wr := [(yb, .inl (cI, 10, .inl bs)), (yr, .inl (cI, 10, .inl br)), (yl, .inl (cI, 16, .inl lv))]) (w1 := [(y, .inr (4, [.int 0, .int (nI (pn + 1)), .ref yp, .int (nI bn), .ref yb, .ref yr, .ref yl])), (yp, .inl (cI, 12, .inl (upd pf pn 0)))]) hP hD [0, 1] [2, 3, 4] rfl rfl (by decide) (by decide) hk1 hFc hP1 (bv_Dm (w0 := [(y, .inr (4, [.int 0, .int (nI pn), .ref yp, .int (nI bn), .ref yb, .ref yr, .ref yl])), (yp, .inl (cI, 12, .inl pf))]) [y, yp] rfl rfl hDc.self)
      have hP : va_P G vwCl [(y, .inr (4, [.int 0, .int (nI (pn + 1)), .ref yp, .int (nI bn), .ref yb, .ref yr, .ref yl])), (yp, .inl (cI, 12, .inl (upd pf pn 0))), (yb, .inl (cI, 10, .inl bs)), (yr, .inl (cI, 10, .inl br)), (yl, .inl (cI, 16, .inl lv))] H1 := hP.sub (ws' := [(y, .inr (4, [.int 0, .int (nI (pn + 1)), .ref yp, .int (nI bn), .ref yb, .ref yr, .ref yl])), (yp, .inl (cI, 12, .inl (upd pf pn 0))), (yb, .inl (cI, 10, .inl bs)), (yr, .inl (cI, 10, .inl br)), (yl, .inl (cI, 16, .inl lv))]) [3, 4, 0, 1, 2] rfl
      have hD : va_D A [(y, .inr (4, [.int 0, .int (nI (pn + 1)), .ref yp, .int (nI bn), .ref yb, .ref yr, .ref yl])), (yp, .inl (cI, 12, .inl (upd pf pn 0))), (yb, .inl (cI, 10, .inl bs)), (yr, .inl (cI, 10, .inl br)), (yl, .inl (cI, 16, .inl lv))] := hD.sub (ws' := [(y, .inr (4, [.int 0, .int (nI (pn + 1)), .ref yp, .int (nI bn), .ref yb, .ref yr, .ref yl])), (yp, .inl (cI, 12, .inl (upd pf pn 0))), (yb, .inl (cI, 10, .inl bs)), (yr, .inl (cI, 10, .inl br)), (yl, .inl (cI, 16, .inl lv))]) [3, 4, 0, 1, 2] (by decide) rfl
      generalize H1 = H at hP hS ⊢
      have hP9 : va_P G vwCl [(y, .inr (4, [.int (nI (if ¬ (pn < 12) then 1 else 0)), .int (nI (bv_if (if ¬ (pn < 12) then 1 else 0) (pn + 1) pn)), .ref yp, .int (nI bn), .ref yb, .ref yr, .ref yl])), (yp, .inl (cI, 12, .inl (bv_if (if ¬ (pn < 12) then 1 else 0) (upd pf pn (bv_cst b)) pf))), (yb, .inl (cI, 10, .inl bs)), (yr, .inl (cI, 10, .inl br)), (yl, .inl (cI, 16, .inl lv))] H := by rw [if_neg (not_not_intro hck0), h1]; exact hP
      exact W.iret (pc := 20) (v := (nI (pn + 1))) hx hb hr (fun T8 hT8 hW8 => ⟨⟨(nI (pn + 1)), (), rfl, (by rw [if_neg (not_not_intro hck0)]; rfl), bv_hP hT8 hP9⟩, hS.F hT8⟩) hS.2.2 dX4_constant_20
    · have hbad := hck0
      refine lv_iconst (pc := 16) (v := 1) hx hb dX4_constant_16 (by decide) ?_
      have hPc := hP.sub (ws' := [(y, .inr (4, [.int 0, .int (nI pn), .ref yp, .int (nI bn), .ref yb, .ref yr, .ref yl])), (yp, .inl (cI, 12, .inl pf))]) [0, 1] rfl
      have hDc := hD.sub (ws' := [(y, .inr (4, [.int 0, .int (nI pn), .ref yp, .int (nI bn), .ref yb, .ref yr, .ref yl])), (yp, .inl (cI, 12, .inl pf))]) [0, 1] (by decide) rfl
      have hFc := va_free (wc := [(y, .inr (4, [.int 0, .int (nI pn), .ref yp, .int (nI bn), .ref yb, .ref yr, .ref yl])), (yp, .inl (cI, 12, .inl pf))]) hD hS hA [0, 1] rfl
      refine bv_cMi (pc := 17) (E' := 0) (va_runV (As := [.int 0, .int 1]) (rest := []) ⟨hx, hb, hml, hown, hts⟩ (m_X4_push_n l G cI H.size y yp yb yr yl pn 0 (nI bn) pf 0 1 (by first | assumption | omega) (by first | assumption | omega)) (cwV 2 hts gX4_constant_X4_push rfl rfl rfl (by decide +kernel) ⟨Nat.le_of_ble_eq_true rfl, Nat.le_of_ble_eq_true rfl⟩) (bv_pV hE ⟨rfl, hPc, hDc.weaken (fun _ _ _ _ => trivial)⟩ (va_recv hK hP (ci := 4) (q0 := 0) rfl rfl)) rfl rfl hl.1 rfl (lv_room (Nat.le_of_ble_eq_true rfl)) dX4_constant_17 ⟨Nat.le_of_ble_eq_true rfl, Nat.le_of_ble_eq_true rfl⟩) hS (fun q _ h => hFc q h) hFc rfl (fun t8 H1 locs ht8 hvm8 hB8 hz1 hk1 hS => ?_)
      have hP1 : va_P G vwCl [(y, .inr (4, [.int 1, .int (nI pn), .ref yp, .int (nI bn), .ref yb, .ref yr, .ref yl])), (yp, .inl (cI, 12, .inl pf))] H1 := by rw [← ht8]; exact hB8
      obtain ⟨hP, hD⟩ := va_join (wr := [(yb, .inl (cI, 10, .inl bs)), (yr, .inl (cI, 10, .inl br)), (yl, .inl (cI, 16, .inl lv))]) (w1 := [(y, .inr (4, [.int 1, .int (nI pn), .ref yp, .int (nI bn), .ref yb, .ref yr, .ref yl])), (yp, .inl (cI, 12, .inl pf))]) hP hD [0, 1] [2, 3, 4] rfl rfl (by decide) (by decide) hk1 hFc hP1 (bv_Dm (w0 := [(y, .inr (4, [.int 0, .int (nI pn), .ref yp, .int (nI bn), .ref yb, .ref yr, .ref yl])), (yp, .inl (cI, 12, .inl pf))]) [y, yp] rfl rfl hDc.self)
      have hP : va_P G vwCl [(y, .inr (4, [.int 1, .int (nI pn), .ref yp, .int (nI bn), .ref yb, .ref yr, .ref yl])), (yp, .inl (cI, 12, .inl pf)), (yb, .inl (cI, 10, .inl bs)), (yr, .inl (cI, 10, .inl br)), (yl, .inl (cI, 16, .inl lv))] H1 := hP.sub (ws' := [(y, .inr (4, [.int 1, .int (nI pn), .ref yp, .int (nI bn), .ref yb, .ref yr, .ref yl])), (yp, .inl (cI, 12, .inl pf)), (yb, .inl (cI, 10, .inl bs)), (yr, .inl (cI, 10, .inl br)), (yl, .inl (cI, 16, .inl lv))]) [3, 4, 0, 1, 2] rfl
      have hD : va_D A [(y, .inr (4, [.int 1, .int (nI pn), .ref yp, .int (nI bn), .ref yb, .ref yr, .ref yl])), (yp, .inl (cI, 12, .inl pf)), (yb, .inl (cI, 10, .inl bs)), (yr, .inl (cI, 10, .inl br)), (yl, .inl (cI, 16, .inl lv))] := hD.sub (ws' := [(y, .inr (4, [.int 1, .int (nI pn), .ref yp, .int (nI bn), .ref yb, .ref yr, .ref yl])), (yp, .inl (cI, 12, .inl pf)), (yb, .inl (cI, 10, .inl bs)), (yr, .inl (cI, 10, .inl br)), (yl, .inl (cI, 16, .inl lv))]) [3, 4, 0, 1, 2] (by decide) rfl
      generalize H1 = H at hP hS ⊢
      have hP9 : va_P G vwCl [(y, .inr (4, [.int (nI (if ¬ (pn < 12) then 1 else 0)), .int (nI (bv_if (if ¬ (pn < 12) then 1 else 0) (pn + 1) pn)), .ref yp, .int (nI bn), .ref yb, .ref yr, .ref yl])), (yp, .inl (cI, 12, .inl (bv_if (if ¬ (pn < 12) then 1 else 0) (upd pf pn (bv_cst b)) pf))), (yb, .inl (cI, 10, .inl bs)), (yr, .inl (cI, 10, .inl br)), (yl, .inl (cI, 16, .inl lv))] H := by rw [if_pos hbad]; exact hP
      exact W.iret (pc := 20) (v := 0) hx hb hr (fun T8 hT8 hW8 => ⟨⟨0, (), rfl, (by rw [if_pos hbad]; rfl), bv_hP hT8 hP9⟩, hS.F hT8⟩) hS.2.2 dX4_constant_20
  · have h1 := bv_b1.mp c7_1
    refine lv_ldc (pc := 10) hx hb hown hw2 dX4_constant_10 ?_
    refine lv_goto (pc := 12) (tgt := 16) hx hb dX4_constant_12 (by decide) ?_
    by_cases hck0 : pn < 12
    · refine lv_iconst (pc := 16) (v := 1) hx hb dX4_constant_16 (by decide) ?_
      have hPc := hP.sub (ws' := [(y, .inr (4, [.int 0, .int (nI pn), .ref yp, .int (nI bn), .ref yb, .ref yr, .ref yl])), (yp, .inl (cI, 12, .inl pf))]) [0, 1] rfl
      have hDc := hD.sub (ws' := [(y, .inr (4, [.int 0, .int (nI pn), .ref yp, .int (nI bn), .ref yb, .ref yr, .ref yl])), (yp, .inl (cI, 12, .inl pf))]) [0, 1] (by decide) rfl
      have hFc := va_free (wc := [(y, .inr (4, [.int 0, .int (nI pn), .ref yp, .int (nI bn), .ref yb, .ref yr, .ref yl])), (yp, .inl (cI, 12, .inl pf))]) hD hS hA [0, 1] rfl
      refine bv_cMi (pc := 17) (E' := (nI (pn + 1))) (va_runV (As := [.int 65535, .int 1]) (rest := []) ⟨hx, hb, hml, hown, hts⟩ (m_X4_push_p l G cI H.size y yp yb yr yl pn 0 (nI bn) pf 65535 1 (by first | assumption | omega) (by first | assumption | omega)) (cwV 2 hts gX4_constant_X4_push rfl rfl rfl (by decide +kernel) ⟨Nat.le_of_ble_eq_true rfl, Nat.le_of_ble_eq_true rfl⟩) (bv_pV hE ⟨rfl, hPc, hDc.weaken (fun _ _ _ _ => trivial)⟩ (va_recv hK hP (ci := 4) (q0 := 0) rfl rfl)) rfl rfl hl.1 rfl (lv_room (Nat.le_of_ble_eq_true rfl)) dX4_constant_17 ⟨Nat.le_of_ble_eq_true rfl, Nat.le_of_ble_eq_true rfl⟩) hS (fun q _ h => hFc q h) hFc rfl (fun t8 H1 locs ht8 hvm8 hB8 hz1 hk1 hS => ?_)
      have hP1 : va_P G vwCl [(y, .inr (4, [.int 0, .int (nI (pn + 1)), .ref yp, .int (nI bn), .ref yb, .ref yr, .ref yl])), (yp, .inl (cI, 12, .inl (upd pf pn 65535)))] H1 := by rw [← ht8]; exact hB8
      obtain ⟨hP, hD⟩ := va_join (wr := [(yb, .inl (cI, 10, .inl bs)), (yr, .inl (cI, 10, .inl br)), (yl, .inl (cI, 16, .inl lv))]) (w1 := [(y, .inr (4, [.int 0, .int (nI (pn + 1)), .ref yp, .int (nI bn), .ref yb, .ref yr, .ref yl])), (yp, .inl (cI, 12, .inl (upd pf pn 65535)))]) hP hD [0, 1] [2, 3, 4] rfl rfl (by decide) (by decide) hk1 hFc hP1 (bv_Dm (w0 := [(y, .inr (4, [.int 0, .int (nI pn), .ref yp, .int (nI bn), .ref yb, .ref yr, .ref yl])), (yp, .inl (cI, 12, .inl pf))]) [y, yp] rfl rfl hDc.self)
      have hP : va_P G vwCl [(y, .inr (4, [.int 0, .int (nI (pn + 1)), .ref yp, .int (nI bn), .ref yb, .ref yr, .ref yl])), (yp, .inl (cI, 12, .inl (upd pf pn 65535))), (yb, .inl (cI, 10, .inl bs)), (yr, .inl (cI, 10, .inl br)), (yl, .inl (cI, 16, .inl lv))] H1 := hP.sub (ws' := [(y, .inr (4, [.int 0, .int (nI (pn + 1)), .ref yp, .int (nI bn), .ref yb, .ref yr, .ref yl])), (yp, .inl (cI, 12, .inl (upd pf pn 65535))), (yb, .inl (cI, 10, .inl bs)), (yr, .inl (cI, 10, .inl br)), (yl, .inl (cI, 16, .inl lv))]) [3, 4, 0, 1, 2] rfl
      have hD : va_D A [(y, .inr (4, [.int 0, .int (nI (pn + 1)), .ref yp, .int (nI bn), .ref yb, .ref yr, .ref yl])), (yp, .inl (cI, 12, .inl (upd pf pn 65535))), (yb, .inl (cI, 10, .inl bs)), (yr, .inl (cI, 10, .inl br)), (yl, .inl (cI, 16, .inl lv))] := hD.sub (ws' := [(y, .inr (4, [.int 0, .int (nI (pn + 1)), .ref yp, .int (nI bn), .ref yb, .ref yr, .ref yl])), (yp, .inl (cI, 12, .inl (upd pf pn 65535))), (yb, .inl (cI, 10, .inl bs)), (yr, .inl (cI, 10, .inl br)), (yl, .inl (cI, 16, .inl lv))]) [3, 4, 0, 1, 2] (by decide) rfl
      generalize H1 = H at hP hS ⊢
      have hP9 : va_P G vwCl [(y, .inr (4, [.int (nI (if ¬ (pn < 12) then 1 else 0)), .int (nI (bv_if (if ¬ (pn < 12) then 1 else 0) (pn + 1) pn)), .ref yp, .int (nI bn), .ref yb, .ref yr, .ref yl])), (yp, .inl (cI, 12, .inl (bv_if (if ¬ (pn < 12) then 1 else 0) (upd pf pn (bv_cst b)) pf))), (yb, .inl (cI, 10, .inl bs)), (yr, .inl (cI, 10, .inl br)), (yl, .inl (cI, 16, .inl lv))] H := by rw [if_neg (not_not_intro hck0), h1]; exact hP
      exact W.iret (pc := 20) (v := (nI (pn + 1))) hx hb hr (fun T8 hT8 hW8 => ⟨⟨(nI (pn + 1)), (), rfl, (by rw [if_neg (not_not_intro hck0)]; rfl), bv_hP hT8 hP9⟩, hS.F hT8⟩) hS.2.2 dX4_constant_20
    · have hbad := hck0
      refine lv_iconst (pc := 16) (v := 1) hx hb dX4_constant_16 (by decide) ?_
      have hPc := hP.sub (ws' := [(y, .inr (4, [.int 0, .int (nI pn), .ref yp, .int (nI bn), .ref yb, .ref yr, .ref yl])), (yp, .inl (cI, 12, .inl pf))]) [0, 1] rfl
      have hDc := hD.sub (ws' := [(y, .inr (4, [.int 0, .int (nI pn), .ref yp, .int (nI bn), .ref yb, .ref yr, .ref yl])), (yp, .inl (cI, 12, .inl pf))]) [0, 1] (by decide) rfl
      have hFc := va_free (wc := [(y, .inr (4, [.int 0, .int (nI pn), .ref yp, .int (nI bn), .ref yb, .ref yr, .ref yl])), (yp, .inl (cI, 12, .inl pf))]) hD hS hA [0, 1] rfl
      refine bv_cMi (pc := 17) (E' := 0) (va_runV (As := [.int 65535, .int 1]) (rest := []) ⟨hx, hb, hml, hown, hts⟩ (m_X4_push_n l G cI H.size y yp yb yr yl pn 0 (nI bn) pf 65535 1 (by first | assumption | omega) (by first | assumption | omega)) (cwV 2 hts gX4_constant_X4_push rfl rfl rfl (by decide +kernel) ⟨Nat.le_of_ble_eq_true rfl, Nat.le_of_ble_eq_true rfl⟩) (bv_pV hE ⟨rfl, hPc, hDc.weaken (fun _ _ _ _ => trivial)⟩ (va_recv hK hP (ci := 4) (q0 := 0) rfl rfl)) rfl rfl hl.1 rfl (lv_room (Nat.le_of_ble_eq_true rfl)) dX4_constant_17 ⟨Nat.le_of_ble_eq_true rfl, Nat.le_of_ble_eq_true rfl⟩) hS (fun q _ h => hFc q h) hFc rfl (fun t8 H1 locs ht8 hvm8 hB8 hz1 hk1 hS => ?_)
      have hP1 : va_P G vwCl [(y, .inr (4, [.int 1, .int (nI pn), .ref yp, .int (nI bn), .ref yb, .ref yr, .ref yl])), (yp, .inl (cI, 12, .inl pf))] H1 := by rw [← ht8]; exact hB8
      obtain ⟨hP, hD⟩ := va_join (wr := [(yb, .inl (cI, 10, .inl bs)), (yr, .inl (cI, 10, .inl br)), (yl, .inl (cI, 16, .inl lv))]) (w1 := [(y, .inr (4, [.int 1, .int (nI pn), .ref yp, .int (nI bn), .ref yb, .ref yr, .ref yl])), (yp, .inl (cI, 12, .inl pf))]) hP hD [0, 1] [2, 3, 4] rfl rfl (by decide) (by decide) hk1 hFc hP1 (bv_Dm (w0 := [(y, .inr (4, [.int 0, .int (nI pn), .ref yp, .int (nI bn), .ref yb, .ref yr, .ref yl])), (yp, .inl (cI, 12, .inl pf))]) [y, yp] rfl rfl hDc.self)
      have hP : va_P G vwCl [(y, .inr (4, [.int 1, .int (nI pn), .ref yp, .int (nI bn), .ref yb, .ref yr, .ref yl])), (yp, .inl (cI, 12, .inl pf)), (yb, .inl (cI, 10, .inl bs)), (yr, .inl (cI, 10, .inl br)), (yl, .inl (cI, 16, .inl lv))] H1 := hP.sub (ws' := [(y, .inr (4, [.int 1, .int (nI pn), .ref yp, .int (nI bn), .ref yb, .ref yr, .ref yl])), (yp, .inl (cI, 12, .inl pf)), (yb, .inl (cI, 10, .inl bs)), (yr, .inl (cI, 10, .inl br)), (yl, .inl (cI, 16, .inl lv))]) [3, 4, 0, 1, 2] rfl
      have hD : va_D A [(y, .inr (4, [.int 1, .int (nI pn), .ref yp, .int (nI bn), .ref yb, .ref yr, .ref yl])), (yp, .inl (cI, 12, .inl pf)), (yb, .inl (cI, 10, .inl bs)), (yr, .inl (cI, 10, .inl br)), (yl, .inl (cI, 16, .inl lv))] := hD.sub (ws' := [(y, .inr (4, [.int 1, .int (nI pn), .ref yp, .int (nI bn), .ref yb, .ref yr, .ref yl])), (yp, .inl (cI, 12, .inl pf)), (yb, .inl (cI, 10, .inl bs)), (yr, .inl (cI, 10, .inl br)), (yl, .inl (cI, 16, .inl lv))]) [3, 4, 0, 1, 2] (by decide) rfl
      generalize H1 = H at hP hS ⊢
      have hP9 : va_P G vwCl [(y, .inr (4, [.int (nI (if ¬ (pn < 12) then 1 else 0)), .int (nI (bv_if (if ¬ (pn < 12) then 1 else 0) (pn + 1) pn)), .ref yp, .int (nI bn), .ref yb, .ref yr, .ref yl])), (yp, .inl (cI, 12, .inl (bv_if (if ¬ (pn < 12) then 1 else 0) (upd pf pn (bv_cst b)) pf))), (yb, .inl (cI, 10, .inl bs)), (yr, .inl (cI, 10, .inl br)), (yl, .inl (cI, 16, .inl lv))] H := by rw [if_pos hbad]; exact hP
      exact W.iret (pc := 20) (v := 0) hx hb hr (fun T8 hT8 hW8 => ⟨⟨0, (), rfl, (by rw [if_pos hbad]; rfl), bv_hP hT8 hP9⟩, hS.F hT8⟩) hS.2.2 dX4_constant_20
set_option maxHeartbeats 4000000 in
set_option maxRecDepth 100000 in
theorem m_X4_recall (l : Launch) (G : va_G) (cI : ClassId) (sz : Nat) (y yp yb yr yl pn bn : Nat) (th : Int32) (pf bs br lv : Nat → Int32) (i : Int32) (hp : pn ≤ 12) (hn : bn ≤ 10) : Met l yX4_recall wsX4_recall ({ frames := 2, cells := 0, slots := 0, locals := 43 }) (bv_P [.ref y, .int i] G cI (fun H => H.size = sz ∧ va_P G vwCl [(y, .inr (4, [.int th, .int (nI pn), .ref yp, .int (nI bn), .ref yb, .ref yr, .ref yl])), (yp, .inl (cI, 12, .inl pf)), (yb, .inl (cI, 10, .inl bs)), (yr, .inl (cI, 10, .inl br)), (yl, .inl (cI, 16, .inl lv))] H ∧ va_D (fun _ => True) [(y, .inr (4, [.int th, .int (nI pn), .ref yp, .int (nI bn), .ref yb, .ref yr, .ref yl])), (yp, .inl (cI, 12, .inl pf)), (yb, .inl (cI, 10, .inl bs)), (yr, .inl (cI, 10, .inl br)), (yl, .inl (cI, 16, .inl lv))])) (va_Qi (fun (r9 : Int32) (_ : Unit) => r9 = (bv_if (if ¬ (0 ≤ i ∧ i < nI bn) then 1 else (if ¬ (pn < 12) then 2 else 0)) (nI (pn + 1)) 0)) (fun (_ : Unit) (T9 : State) => va_P G vwCl [(y, .inr (4, [.int (nI (if ¬ (0 ≤ i ∧ i < nI bn) then 1 else (if ¬ (pn < 12) then 2 else 0))), .int (nI (bv_if (if ¬ (0 ≤ i ∧ i < nI bn) then 1 else (if ¬ (pn < 12) then 2 else 0)) (pn + 1) pn)), .ref yp, .int (nI bn), .ref yb, .ref yr, .ref yl])), (yp, .inl (cI, 12, .inl (bv_if (if ¬ (0 ≤ i ∧ i < nI bn) then 1 else (if ¬ (pn < 12) then 2 else 0)) (upd pf pn (bs i.toNatClampNeg)) pf))), (yb, .inl (cI, 10, .inl bs)), (yr, .inl (cI, 10, .inl br)), (yl, .inl (cI, 16, .inl lv))] T9.heap) (va_A [(y, .inr (4, [.int th, .int (nI pn), .ref yp, .int (nI bn), .ref yb, .ref yr, .ref yl])), (yp, .inl (cI, 12, .inl pf)), (yb, .inl (cI, 10, .inl bs)), (yr, .inl (cI, 10, .inl br)), (yl, .inl (cI, 16, .inl lv))] sz)) 0 0 (va_A [(y, .inr (4, [.int th, .int (nI pn), .ref yp, .int (nI bn), .ref yb, .ref yr, .ref yl])), (yp, .inl (cI, 12, .inl pf)), (yb, .inl (cI, 10, .inl bs)), (yr, .inl (cI, 10, .inl br)), (yl, .inl (cI, 16, .inl lv))] sz) := by
  refine Met.ofW (cc := cX4_recall) (maxL := 2) (ret := (some .int)) (by decide) rfl ?_
  intro p e s m args below meth c s₁ B hml hv
  obtain ⟨rfl, ⟨hsz, hP, hD0⟩, hE⟩ := hv
  have hx := B.exec
  have hb := B.bytes
  have hr := B.returns
  have hts := atoms_spec (ws := wsX4_recall) B.pre
  have hown : s.vm.findClass RX4 = some m.cls := findClass_of_methodNamed B.named
  have hlocks := B.notSynchronized
  have hK := hE.1
  have hw0 := hts (.fieldLink RX4 22 "BeliefReviserModel" "thrown" "I") (List.mem_of_getElem? (i := 1) rfl)
  have hw1 : ∀ w ∈ u_ws RX4 TX4 7, w ∈ wsX4_recall := by decide +kernel
  have hw2 := hts (.fieldLink RX4 13 "BeliefReviserModel" "base" "[I") (List.mem_of_getElem? (i := 2) rfl)
  subst hsz
  have hD := hD0.self (sz := s.heap.size)
  generalize hAe : va_A [(y, .inr (4, [.int th, .int (nI pn), .ref yp, .int (nI bn), .ref yb, .ref yr, .ref yl])), (yp, .inl (cI, 12, .inl pf)), (yb, .inl (cI, 10, .inl bs)), (yr, .inl (cI, 10, .inl br)), (yl, .inl (cI, 16, .inl lv))] s.heap.size = A at hD ⊢
  have hA : ∀ q : Nat, s.heap.size ≤ q → A q := fun q h => by rw [← hAe]; exact Or.inr h
  have hS : va_S A s.heap s.heap [] := va_S.rf
  have hP : va_P G vwCl [(y, .inr (4, [.int th, .int (nI pn), .ref yp, .int (nI bn), .ref yb, .ref yr, .ref yl])), (yp, .inl (cI, 12, .inl pf)), (yb, .inl (cI, 10, .inl bs)), (yr, .inl (cI, 10, .inl br)), (yl, .inl (cI, 16, .inl lv))] s.heap := hP
  have hl := lv_entry ([.ref y, .int i]) (n := 2) (Nat.le_of_ble_eq_true rfl)
  rw [lg_entry_eq]
  generalize (lg_sl ([.ref y, .int i]) ++ List.replicate (2 - (lg_sl ([.ref y, .int i])).length) Slot.unset).toArray = ls at hl ⊢
  have hl : lv_has ls 2 [(0, .ref y), (1, .int i)] := hl
  refine lv_aload_n (pc := 0) hx hb dX4_recall_0 rfl (lv_at hl 0 rfl) ?_
  refine lv_iconst (pc := 1) (v := 0) hx hb dX4_recall_1 (by decide) ?_
  refine va_put (pc := 2) (D := G) (ci := 4) (v := .int 0) (ty := .int) (C := RX4) (T := TX4) (N := 7) hx hb hts hw1 tyX4 tyX4_ok nmX4 hown hK hP hD hS 0 rfl rfl 0 (by decide) hw0 (fun _ h9 => h9) rfl (by decide +kernel) rfl rfl (Nat.le_of_ble_eq_true rfl) dX4_recall_2 (fun H locs hP hD hS => ?_)
  have hP : va_P G vwCl [(y, .inr (4, [.int 0, .int (nI pn), .ref yp, .int (nI bn), .ref yb, .ref yr, .ref yl])), (yp, .inl (cI, 12, .inl pf)), (yb, .inl (cI, 10, .inl bs)), (yr, .inl (cI, 10, .inl br)), (yl, .inl (cI, 16, .inl lv))] H := hP
  have hD : va_D A [(y, .inr (4, [.int 0, .int (nI pn), .ref yp, .int (nI bn), .ref yb, .ref yr, .ref yl])), (yp, .inl (cI, 12, .inl pf)), (yb, .inl (cI, 10, .inl bs)), (yr, .inl (cI, 10, .inl br)), (yl, .inl (cI, 16, .inl lv))] := hD
  refine lv_aload_n (pc := 5) hx hb dX4_recall_5 rfl (lv_at hl 0 rfl) ?_
  refine lv_iload_n (pc := 6) hx hb dX4_recall_6 rfl (lv_at hl 1 rfl) ?_
  have hPc := hP.sub (ws' := [(y, .inr (4, [.int 0, .int (nI pn), .ref yp, .int (nI bn), .ref yb, .ref yr, .ref yl]))]) [0] rfl
  refine bv_cSi (pc := 7) (E' := (bv_b (decide (0 ≤ i ∧ i < nI bn)))) (va_runV (As := [.int i]) (rest := []) ⟨hx, hb, hml, hown, hts⟩ (m_X4_isSentence l G cI y yp yb yr yl bn 0 (nI pn) i (by first | assumption | omega)) (cwV 1 hts gX4_recall_X4_isSentence rfl rfl rfl (by decide +kernel) ⟨Nat.le_of_ble_eq_true rfl, Nat.le_of_ble_eq_true rfl⟩) (bv_pV hE hPc (va_recv hK hP (ci := 4) (q0 := 0) rfl rfl)) rfl rfl hl.1 rfl (lv_room (Nat.le_of_ble_eq_true rfl)) dX4_recall_7 ⟨Nat.le_of_ble_eq_true rfl, Nat.le_of_ble_eq_true rfl⟩) rfl ?_
  refine lv_if_eq (pc := 10) (tgt := 27) hx hb dX4_recall_10 (by decide) (fun c10_3 => ?_) (fun c10_3 => ?_)
  · have hbad := of_decide_eq_false (bv_b0.mp c10_3)
    refine lv_aload_n (pc := 27) hx hb dX4_recall_27 rfl (lv_at hl 0 rfl) ?_
    refine lv_iconst (pc := 28) (v := 1) hx hb dX4_recall_28 (by decide) ?_
    have hPc := hP.sub (ws' := [(y, .inr (4, [.int 0, .int (nI pn), .ref yp, .int (nI bn), .ref yb, .ref yr, .ref yl]))]) [0] rfl
    have hDc := hD.sub (ws' := [(y, .inr (4, [.int 0, .int (nI pn), .ref yp, .int (nI bn), .ref yb, .ref yr, .ref yl]))]) [0] (by decide) rfl
    have hFc := va_free (wc := [(y, .inr (4, [.int 0, .int (nI pn), .ref yp, .int (nI bn), .ref yb, .ref yr, .ref yl]))]) hD hS hA [0] rfl
    refine bv_cMi (pc := 29) (E' := 0) (va_runV (As := [.int 1]) (rest := []) ⟨hx, hb, hml, hown, hts⟩ (m_X4_no l G cI H.size y yp yb yr yl 0 (nI pn) (nI bn) 1 ) (cwV 1 hts gX4_recall_X4_no rfl rfl rfl (by decide +kernel) ⟨Nat.le_of_ble_eq_true rfl, Nat.le_of_ble_eq_true rfl⟩) (bv_pV hE ⟨rfl, hPc, hDc.weaken (fun _ _ _ _ => trivial)⟩ (va_recv hK hP (ci := 4) (q0 := 0) rfl rfl)) rfl rfl hl.1 rfl (lv_room (Nat.le_of_ble_eq_true rfl)) dX4_recall_29 ⟨Nat.le_of_ble_eq_true rfl, Nat.le_of_ble_eq_true rfl⟩) hS (fun q _ h => hFc q h) hFc rfl (fun t8 H1 locs ht8 hvm8 hB8 hz1 hk1 hS => ?_)
    have hP1 : va_P G vwCl [(y, .inr (4, [.int 1, .int (nI pn), .ref yp, .int (nI bn), .ref yb, .ref yr, .ref yl]))] H1 := by rw [← ht8]; exact hB8
    obtain ⟨hP, hD⟩ := va_join (wr := [(yp, .inl (cI, 12, .inl pf)), (yb, .inl (cI, 10, .inl bs)), (yr, .inl (cI, 10, .inl br)), (yl, .inl (cI, 16, .inl lv))]) (w1 := [(y, .inr (4, [.int 1, .int (nI pn), .ref yp, .int (nI bn), .ref yb, .ref yr, .ref yl]))]) hP hD [0] [1, 2, 3, 4] rfl rfl (by decide) (by decide) hk1 hFc hP1 (bv_Dm (w0 := [(y, .inr (4, [.int 0, .int (nI pn), .ref yp, .int (nI bn), .ref yb, .ref yr, .ref yl]))]) [y] rfl rfl hDc.self)
    have hP : va_P G vwCl [(y, .inr (4, [.int 1, .int (nI pn), .ref yp, .int (nI bn), .ref yb, .ref yr, .ref yl])), (yp, .inl (cI, 12, .inl pf)), (yb, .inl (cI, 10, .inl bs)), (yr, .inl (cI, 10, .inl br)), (yl, .inl (cI, 16, .inl lv))] H1 := hP.sub (ws' := [(y, .inr (4, [.int 1, .int (nI pn), .ref yp, .int (nI bn), .ref yb, .ref yr, .ref yl])), (yp, .inl (cI, 12, .inl pf)), (yb, .inl (cI, 10, .inl bs)), (yr, .inl (cI, 10, .inl br)), (yl, .inl (cI, 16, .inl lv))]) [4, 0, 1, 2, 3] rfl
    have hD : va_D A [(y, .inr (4, [.int 1, .int (nI pn), .ref yp, .int (nI bn), .ref yb, .ref yr, .ref yl])), (yp, .inl (cI, 12, .inl pf)), (yb, .inl (cI, 10, .inl bs)), (yr, .inl (cI, 10, .inl br)), (yl, .inl (cI, 16, .inl lv))] := hD.sub (ws' := [(y, .inr (4, [.int 1, .int (nI pn), .ref yp, .int (nI bn), .ref yb, .ref yr, .ref yl])), (yp, .inl (cI, 12, .inl pf)), (yb, .inl (cI, 10, .inl bs)), (yr, .inl (cI, 10, .inl br)), (yl, .inl (cI, 16, .inl lv))]) [4, 0, 1, 2, 3] (by decide) rfl
    generalize H1 = H at hP hS ⊢
    have hP9 : va_P G vwCl [(y, .inr (4, [.int (nI (if ¬ (0 ≤ i ∧ i < nI bn) then 1 else (if ¬ (pn < 12) then 2 else 0))), .int (nI (bv_if (if ¬ (0 ≤ i ∧ i < nI bn) then 1 else (if ¬ (pn < 12) then 2 else 0)) (pn + 1) pn)), .ref yp, .int (nI bn), .ref yb, .ref yr, .ref yl])), (yp, .inl (cI, 12, .inl (bv_if (if ¬ (0 ≤ i ∧ i < nI bn) then 1 else (if ¬ (pn < 12) then 2 else 0)) (upd pf pn (bs i.toNatClampNeg)) pf))), (yb, .inl (cI, 10, .inl bs)), (yr, .inl (cI, 10, .inl br)), (yl, .inl (cI, 16, .inl lv))] H := by rw [if_pos hbad]; exact hP
    exact W.iret (pc := 32) (v := 0) hx hb hr (fun T8 hT8 hW8 => ⟨⟨0, (), rfl, (by rw [if_pos hbad]; rfl), bv_hP hT8 hP9⟩, hS.F hT8⟩) hS.2.2 dX4_recall_32
  · have hck0 := of_decide_eq_true (bv_b1.mp c10_3)
    obtain ⟨j, hj, rfl⟩ := bv_ix hck0.1 hck0.2 (by omega)
    refine lv_aload_n (pc := 13) hx hb dX4_recall_13 rfl (lv_at hl 0 rfl) ?_
    refine lv_aload_n (pc := 14) hx hb dX4_recall_14 rfl (lv_at hl 0 rfl) ?_
    refine va_get (pc := 15) (D := G) (ci := 4) (v := .ref yb) (C := RX4) (T := TX4) (N := 7) hx hb hts hw1 hown hK hP 0 rfl rfl 4 (by decide) hw2 (fun _ h9 => h9) rfl dX4_recall_15 ?_
    refine lv_iload_n (pc := 18) hx hb dX4_recall_18 rfl (lv_at hl 1 rfl) ?_
    refine bv_ial (pc := 19) hx hb hK hP 2 0 rfl rfl (by omega) (by omega) dX4_recall_19 ?_
    by_cases hck1 : pn < 12
    · refine lv_iconst (pc := 20) (v := 2) hx hb dX4_recall_20 (by decide) ?_
      have hPc := hP.sub (ws' := [(y, .inr (4, [.int 0, .int (nI pn), .ref yp, .int (nI bn), .ref yb, .ref yr, .ref yl])), (yp, .inl (cI, 12, .inl pf))]) [0, 1] rfl
      have hDc := hD.sub (ws' := [(y, .inr (4, [.int 0, .int (nI pn), .ref yp, .int (nI bn), .ref yb, .ref yr, .ref yl])), (yp, .inl (cI, 12, .inl pf))]) [0, 1] (by decide) rfl
      have hFc := va_free (wc := [(y, .inr (4, [.int 0, .int (nI pn), .ref yp, .int (nI bn), .ref yb, .ref yr, .ref yl])), (yp, .inl (cI, 12, .inl pf))]) hD hS hA [0, 1] rfl
      refine bv_cMi (pc := 21) (E' := (nI (pn + 1))) (va_runV (As := [.int (bs j), .int 2]) (rest := []) ⟨hx, hb, hml, hown, hts⟩ (m_X4_push_p l G cI H.size y yp yb yr yl pn 0 (nI bn) pf (bs j) 2 (by first | assumption | omega) (by first | assumption | omega)) (cwV 2 hts gX4_recall_X4_push rfl rfl rfl (by decide +kernel) ⟨Nat.le_of_ble_eq_true rfl, Nat.le_of_ble_eq_true rfl⟩) (bv_pV hE ⟨rfl, hPc, hDc.weaken (fun _ _ _ _ => trivial)⟩ (va_recv hK hP (ci := 4) (q0 := 0) rfl rfl)) rfl rfl hl.1 rfl (lv_room (Nat.le_of_ble_eq_true rfl)) dX4_recall_21 ⟨Nat.le_of_ble_eq_true rfl, Nat.le_of_ble_eq_true rfl⟩) hS (fun q _ h => hFc q h) hFc rfl (fun t8 H1 locs ht8 hvm8 hB8 hz1 hk1 hS => ?_)
      have hP1 : va_P G vwCl [(y, .inr (4, [.int 0, .int (nI (pn + 1)), .ref yp, .int (nI bn), .ref yb, .ref yr, .ref yl])), (yp, .inl (cI, 12, .inl (upd pf pn (bs j))))] H1 := by rw [← ht8]; exact hB8
      obtain ⟨hP, hD⟩ := va_join (wr := [(yb, .inl (cI, 10, .inl bs)), (yr, .inl (cI, 10, .inl br)), (yl, .inl (cI, 16, .inl lv))]) (w1 := [(y, .inr (4, [.int 0, .int (nI (pn + 1)), .ref yp, .int (nI bn), .ref yb, .ref yr, .ref yl])), (yp, .inl (cI, 12, .inl (upd pf pn (bs j))))]) hP hD [0, 1] [2, 3, 4] rfl rfl (by decide) (by decide) hk1 hFc hP1 (bv_Dm (w0 := [(y, .inr (4, [.int 0, .int (nI pn), .ref yp, .int (nI bn), .ref yb, .ref yr, .ref yl])), (yp, .inl (cI, 12, .inl pf))]) [y, yp] rfl rfl hDc.self)
      have hP : va_P G vwCl [(y, .inr (4, [.int 0, .int (nI (pn + 1)), .ref yp, .int (nI bn), .ref yb, .ref yr, .ref yl])), (yp, .inl (cI, 12, .inl (upd pf pn (bs j)))), (yb, .inl (cI, 10, .inl bs)), (yr, .inl (cI, 10, .inl br)), (yl, .inl (cI, 16, .inl lv))] H1 := hP.sub (ws' := [(y, .inr (4, [.int 0, .int (nI (pn + 1)), .ref yp, .int (nI bn), .ref yb, .ref yr, .ref yl])), (yp, .inl (cI, 12, .inl (upd pf pn (bs j)))), (yb, .inl (cI, 10, .inl bs)), (yr, .inl (cI, 10, .inl br)), (yl, .inl (cI, 16, .inl lv))]) [3, 4, 0, 1, 2] rfl
      have hD : va_D A [(y, .inr (4, [.int 0, .int (nI (pn + 1)), .ref yp, .int (nI bn), .ref yb, .ref yr, .ref yl])), (yp, .inl (cI, 12, .inl (upd pf pn (bs j)))), (yb, .inl (cI, 10, .inl bs)), (yr, .inl (cI, 10, .inl br)), (yl, .inl (cI, 16, .inl lv))] := hD.sub (ws' := [(y, .inr (4, [.int 0, .int (nI (pn + 1)), .ref yp, .int (nI bn), .ref yb, .ref yr, .ref yl])), (yp, .inl (cI, 12, .inl (upd pf pn (bs j)))), (yb, .inl (cI, 10, .inl bs)), (yr, .inl (cI, 10, .inl br)), (yl, .inl (cI, 16, .inl lv))]) [3, 4, 0, 1, 2] (by decide) rfl
      generalize H1 = H at hP hS ⊢
      refine lv_goto (pc := 24) (tgt := 32) hx hb dX4_recall_24 (by decide) ?_
      have hP9 : va_P G vwCl [(y, .inr (4, [.int (nI (if ¬ (0 ≤ (nI j) ∧ (nI j) < nI bn) then 1 else (if ¬ (pn < 12) then 2 else 0))), .int (nI (bv_if (if ¬ (0 ≤ (nI j) ∧ (nI j) < nI bn) then 1 else (if ¬ (pn < 12) then 2 else 0)) (pn + 1) pn)), .ref yp, .int (nI bn), .ref yb, .ref yr, .ref yl])), (yp, .inl (cI, 12, .inl (bv_if (if ¬ (0 ≤ (nI j) ∧ (nI j) < nI bn) then 1 else (if ¬ (pn < 12) then 2 else 0)) (upd pf pn (bs (nI j).toNatClampNeg)) pf))), (yb, .inl (cI, 10, .inl bs)), (yr, .inl (cI, 10, .inl br)), (yl, .inl (cI, 16, .inl lv))] H := by rw [if_neg (not_not_intro hck0), if_neg (not_not_intro hck1), nI_clamp (by omega)]; exact hP
      exact W.iret (pc := 32) (v := (nI (pn + 1))) hx hb hr (fun T8 hT8 hW8 => ⟨⟨(nI (pn + 1)), (), rfl, (by rw [if_neg (not_not_intro hck0), if_neg (not_not_intro hck1)]; rfl), bv_hP hT8 hP9⟩, hS.F hT8⟩) hS.2.2 dX4_recall_32
    · have hbad := hck1
      refine lv_iconst (pc := 20) (v := 2) hx hb dX4_recall_20 (by decide) ?_
      have hPc := hP.sub (ws' := [(y, .inr (4, [.int 0, .int (nI pn), .ref yp, .int (nI bn), .ref yb, .ref yr, .ref yl])), (yp, .inl (cI, 12, .inl pf))]) [0, 1] rfl
      have hDc := hD.sub (ws' := [(y, .inr (4, [.int 0, .int (nI pn), .ref yp, .int (nI bn), .ref yb, .ref yr, .ref yl])), (yp, .inl (cI, 12, .inl pf))]) [0, 1] (by decide) rfl
      have hFc := va_free (wc := [(y, .inr (4, [.int 0, .int (nI pn), .ref yp, .int (nI bn), .ref yb, .ref yr, .ref yl])), (yp, .inl (cI, 12, .inl pf))]) hD hS hA [0, 1] rfl
      refine bv_cMi (pc := 21) (E' := 0) (va_runV (As := [.int (bs j), .int 2]) (rest := []) ⟨hx, hb, hml, hown, hts⟩ (m_X4_push_n l G cI H.size y yp yb yr yl pn 0 (nI bn) pf (bs j) 2 (by first | assumption | omega) (by first | assumption | omega)) (cwV 2 hts gX4_recall_X4_push rfl rfl rfl (by decide +kernel) ⟨Nat.le_of_ble_eq_true rfl, Nat.le_of_ble_eq_true rfl⟩) (bv_pV hE ⟨rfl, hPc, hDc.weaken (fun _ _ _ _ => trivial)⟩ (va_recv hK hP (ci := 4) (q0 := 0) rfl rfl)) rfl rfl hl.1 rfl (lv_room (Nat.le_of_ble_eq_true rfl)) dX4_recall_21 ⟨Nat.le_of_ble_eq_true rfl, Nat.le_of_ble_eq_true rfl⟩) hS (fun q _ h => hFc q h) hFc rfl (fun t8 H1 locs ht8 hvm8 hB8 hz1 hk1 hS => ?_)
      have hP1 : va_P G vwCl [(y, .inr (4, [.int 2, .int (nI pn), .ref yp, .int (nI bn), .ref yb, .ref yr, .ref yl])), (yp, .inl (cI, 12, .inl pf))] H1 := by rw [← ht8]; exact hB8
      obtain ⟨hP, hD⟩ := va_join (wr := [(yb, .inl (cI, 10, .inl bs)), (yr, .inl (cI, 10, .inl br)), (yl, .inl (cI, 16, .inl lv))]) (w1 := [(y, .inr (4, [.int 2, .int (nI pn), .ref yp, .int (nI bn), .ref yb, .ref yr, .ref yl])), (yp, .inl (cI, 12, .inl pf))]) hP hD [0, 1] [2, 3, 4] rfl rfl (by decide) (by decide) hk1 hFc hP1 (bv_Dm (w0 := [(y, .inr (4, [.int 0, .int (nI pn), .ref yp, .int (nI bn), .ref yb, .ref yr, .ref yl])), (yp, .inl (cI, 12, .inl pf))]) [y, yp] rfl rfl hDc.self)
      have hP : va_P G vwCl [(y, .inr (4, [.int 2, .int (nI pn), .ref yp, .int (nI bn), .ref yb, .ref yr, .ref yl])), (yp, .inl (cI, 12, .inl pf)), (yb, .inl (cI, 10, .inl bs)), (yr, .inl (cI, 10, .inl br)), (yl, .inl (cI, 16, .inl lv))] H1 := hP.sub (ws' := [(y, .inr (4, [.int 2, .int (nI pn), .ref yp, .int (nI bn), .ref yb, .ref yr, .ref yl])), (yp, .inl (cI, 12, .inl pf)), (yb, .inl (cI, 10, .inl bs)), (yr, .inl (cI, 10, .inl br)), (yl, .inl (cI, 16, .inl lv))]) [3, 4, 0, 1, 2] rfl
      have hD : va_D A [(y, .inr (4, [.int 2, .int (nI pn), .ref yp, .int (nI bn), .ref yb, .ref yr, .ref yl])), (yp, .inl (cI, 12, .inl pf)), (yb, .inl (cI, 10, .inl bs)), (yr, .inl (cI, 10, .inl br)), (yl, .inl (cI, 16, .inl lv))] := hD.sub (ws' := [(y, .inr (4, [.int 2, .int (nI pn), .ref yp, .int (nI bn), .ref yb, .ref yr, .ref yl])), (yp, .inl (cI, 12, .inl pf)), (yb, .inl (cI, 10, .inl bs)), (yr, .inl (cI, 10, .inl br)), (yl, .inl (cI, 16, .inl lv))]) [3, 4, 0, 1, 2] (by decide) rfl
      generalize H1 = H at hP hS ⊢
      refine lv_goto (pc := 24) (tgt := 32) hx hb dX4_recall_24 (by decide) ?_
      have hP9 : va_P G vwCl [(y, .inr (4, [.int (nI (if ¬ (0 ≤ (nI j) ∧ (nI j) < nI bn) then 1 else (if ¬ (pn < 12) then 2 else 0))), .int (nI (bv_if (if ¬ (0 ≤ (nI j) ∧ (nI j) < nI bn) then 1 else (if ¬ (pn < 12) then 2 else 0)) (pn + 1) pn)), .ref yp, .int (nI bn), .ref yb, .ref yr, .ref yl])), (yp, .inl (cI, 12, .inl (bv_if (if ¬ (0 ≤ (nI j) ∧ (nI j) < nI bn) then 1 else (if ¬ (pn < 12) then 2 else 0)) (upd pf pn (bs (nI j).toNatClampNeg)) pf))), (yb, .inl (cI, 10, .inl bs)), (yr, .inl (cI, 10, .inl br)), (yl, .inl (cI, 16, .inl lv))] H := by rw [if_neg (not_not_intro hck0), if_pos hbad]; exact hP
      exact W.iret (pc := 32) (v := 0) hx hb hr (fun T8 hT8 hW8 => ⟨⟨0, (), rfl, (by rw [if_neg (not_not_intro hck0), if_pos hbad]; rfl), bv_hP hT8 hP9⟩, hS.F hT8⟩) hS.2.2 dX4_recall_32
set_option maxHeartbeats 4000000 in
set_option maxRecDepth 100000 in
theorem m_X4_pop (l : Launch) (G : va_G) (cI : ClassId) (sz : Nat) (y yp yb yr yl pn bn : Nat) (th : Int32) (pf bs br lv : Nat → Int32) (hp : pn ≤ 12) (hn : bn ≤ 10) : Met l yX4_pop wsX4_pop ({ frames := 1, cells := 0, slots := 0, locals := 21 }) (bv_P [.ref y] G cI (fun H => H.size = sz ∧ va_P G vwCl [(y, .inr (4, [.int th, .int (nI pn), .ref yp, .int (nI bn), .ref yb, .ref yr, .ref yl])), (yp, .inl (cI, 12, .inl pf)), (yb, .inl (cI, 10, .inl bs)), (yr, .inl (cI, 10, .inl br)), (yl, .inl (cI, 16, .inl lv))] H ∧ va_D (fun _ => True) [(y, .inr (4, [.int th, .int (nI pn), .ref yp, .int (nI bn), .ref yb, .ref yr, .ref yl])), (yp, .inl (cI, 12, .inl pf)), (yb, .inl (cI, 10, .inl bs)), (yr, .inl (cI, 10, .inl br)), (yl, .inl (cI, 16, .inl lv))])) (va_Qi (fun (r9 : Int32) (_ : Unit) => r9 = (bv_if (if ¬ (1 ≤ pn) then 1 else 0) (nI (pn - 1)) 0)) (fun (_ : Unit) (T9 : State) => va_P G vwCl [(y, .inr (4, [.int (nI (if ¬ (1 ≤ pn) then 1 else 0)), .int (nI (bv_if (if ¬ (1 ≤ pn) then 1 else 0) (pn - 1) pn)), .ref yp, .int (nI bn), .ref yb, .ref yr, .ref yl])), (yp, .inl (cI, 12, .inl pf)), (yb, .inl (cI, 10, .inl bs)), (yr, .inl (cI, 10, .inl br)), (yl, .inl (cI, 16, .inl lv))] T9.heap) (va_A [(y, .inr (4, [.int th, .int (nI pn), .ref yp, .int (nI bn), .ref yb, .ref yr, .ref yl])), (yp, .inl (cI, 12, .inl pf)), (yb, .inl (cI, 10, .inl bs)), (yr, .inl (cI, 10, .inl br)), (yl, .inl (cI, 16, .inl lv))] sz)) 0 0 (va_A [(y, .inr (4, [.int th, .int (nI pn), .ref yp, .int (nI bn), .ref yb, .ref yr, .ref yl])), (yp, .inl (cI, 12, .inl pf)), (yb, .inl (cI, 10, .inl bs)), (yr, .inl (cI, 10, .inl br)), (yl, .inl (cI, 16, .inl lv))] sz) := by
  refine Met.ofW (cc := cX4_pop) (maxL := 1) (ret := (some .int)) (by decide) rfl ?_
  intro p e s m args below meth c s₁ B hml hv
  obtain ⟨rfl, ⟨hsz, hP, hD0⟩, hE⟩ := hv
  have hx := B.exec
  have hb := B.bytes
  have hr := B.returns
  have hts := atoms_spec (ws := wsX4_pop) B.pre
  have hown : s.vm.findClass RX4 = some m.cls := findClass_of_methodNamed B.named
  have hlocks := B.notSynchronized
  have hK := hE.1
  have hw0 := hts (.fieldLink RX4 22 "BeliefReviserModel" "thrown" "I") (List.mem_of_getElem? (i := 1) rfl)
  have hw1 : ∀ w ∈ u_ws RX4 TX4 7, w ∈ wsX4_pop := by decide +kernel
  have hw2 := hts (.fieldLink RX4 33 "BeliefReviserModel" "high" "I") (List.mem_of_getElem? (i := 2) rfl)
  subst hsz
  have hD := hD0.self (sz := s.heap.size)
  generalize hAe : va_A [(y, .inr (4, [.int th, .int (nI pn), .ref yp, .int (nI bn), .ref yb, .ref yr, .ref yl])), (yp, .inl (cI, 12, .inl pf)), (yb, .inl (cI, 10, .inl bs)), (yr, .inl (cI, 10, .inl br)), (yl, .inl (cI, 16, .inl lv))] s.heap.size = A at hD ⊢
  have hA : ∀ q : Nat, s.heap.size ≤ q → A q := fun q h => by rw [← hAe]; exact Or.inr h
  have hS : va_S A s.heap s.heap [] := va_S.rf
  have hP : va_P G vwCl [(y, .inr (4, [.int th, .int (nI pn), .ref yp, .int (nI bn), .ref yb, .ref yr, .ref yl])), (yp, .inl (cI, 12, .inl pf)), (yb, .inl (cI, 10, .inl bs)), (yr, .inl (cI, 10, .inl br)), (yl, .inl (cI, 16, .inl lv))] s.heap := hP
  have hl := lv_entry ([.ref y]) (n := 1) (Nat.le_of_ble_eq_true rfl)
  rw [lg_entry_eq]
  generalize (lg_sl ([.ref y]) ++ List.replicate (1 - (lg_sl ([.ref y])).length) Slot.unset).toArray = ls at hl ⊢
  have hl : lv_has ls 1 [(0, .ref y)] := hl
  refine lv_aload_n (pc := 0) hx hb dX4_pop_0 rfl (lv_at hl 0 rfl) ?_
  refine lv_iconst (pc := 1) (v := 0) hx hb dX4_pop_1 (by decide) ?_
  refine va_put (pc := 2) (D := G) (ci := 4) (v := .int 0) (ty := .int) (C := RX4) (T := TX4) (N := 7) hx hb hts hw1 tyX4 tyX4_ok nmX4 hown hK hP hD hS 0 rfl rfl 0 (by decide) hw0 (fun _ h9 => h9) rfl (by decide +kernel) rfl rfl (Nat.le_of_ble_eq_true rfl) dX4_pop_2 (fun H locs hP hD hS => ?_)
  have hP : va_P G vwCl [(y, .inr (4, [.int 0, .int (nI pn), .ref yp, .int (nI bn), .ref yb, .ref yr, .ref yl])), (yp, .inl (cI, 12, .inl pf)), (yb, .inl (cI, 10, .inl bs)), (yr, .inl (cI, 10, .inl br)), (yl, .inl (cI, 16, .inl lv))] H := hP
  have hD : va_D A [(y, .inr (4, [.int 0, .int (nI pn), .ref yp, .int (nI bn), .ref yb, .ref yr, .ref yl])), (yp, .inl (cI, 12, .inl pf)), (yb, .inl (cI, 10, .inl bs)), (yr, .inl (cI, 10, .inl br)), (yl, .inl (cI, 16, .inl lv))] := hD
  refine lv_aload_n (pc := 5) hx hb dX4_pop_5 rfl (lv_at hl 0 rfl) ?_
  refine va_get (pc := 6) (D := G) (ci := 4) (v := .int (nI pn)) (C := RX4) (T := TX4) (N := 7) hx hb hts hw1 hown hK hP 0 rfl rfl 1 (by decide) hw2 (fun _ h9 => h9) rfl dX4_pop_6 ?_
  refine lv_if_ne (pc := 9) (tgt := 18) hx hb dX4_pop_9 (by decide) (fun c9_1 => ?_) (fun c9_1 => ?_)
  · have hck0 : 1 ≤ pn := by
      by_cases h : pn = 0
      · exact absurd (by rw [h]; rfl) c9_1
      · omega
    refine lv_aload_n (pc := 18) hx hb dX4_pop_18 rfl (lv_at hl 0 rfl) ?_
    refine lv_dup (pc := 19) hx hb dX4_pop_19 rfl ?_
    refine va_get (pc := 20) (D := G) (ci := 4) (v := .int (nI pn)) (C := RX4) (T := TX4) (N := 7) hx hb hts hw1 hown hK hP 0 rfl rfl 1 (by decide) hw2 (fun _ h9 => h9) rfl dX4_pop_20 ?_
    refine lv_iconst (pc := 23) (v := 1) hx hb dX4_pop_23 (by decide) ?_
    refine lv_isub (pc := 24) hx hb dX4_pop_24 ?_
    rw [show ((nI pn) - 1) = (nI (pn - 1)) from by rw [show (1 : Int32) = nI 1 from rfl, bv_sub hck0]]
    refine va_put (pc := 25) (D := G) (ci := 4) (v := .int (nI (pn - 1))) (ty := .int) (C := RX4) (T := TX4) (N := 7) hx hb hts hw1 tyX4 tyX4_ok nmX4 hown hK hP hD hS 0 rfl rfl 1 (by decide) hw2 (fun _ h9 => h9) rfl (by decide +kernel) rfl rfl (Nat.le_of_ble_eq_true rfl) dX4_pop_25 (fun H locs hP hD hS => ?_)
    have hP : va_P G vwCl [(y, .inr (4, [.int 0, .int (nI (pn - 1)), .ref yp, .int (nI bn), .ref yb, .ref yr, .ref yl])), (yp, .inl (cI, 12, .inl pf)), (yb, .inl (cI, 10, .inl bs)), (yr, .inl (cI, 10, .inl br)), (yl, .inl (cI, 16, .inl lv))] H := hP
    have hD : va_D A [(y, .inr (4, [.int 0, .int (nI (pn - 1)), .ref yp, .int (nI bn), .ref yb, .ref yr, .ref yl])), (yp, .inl (cI, 12, .inl pf)), (yb, .inl (cI, 10, .inl bs)), (yr, .inl (cI, 10, .inl br)), (yl, .inl (cI, 16, .inl lv))] := hD
    refine lv_aload_n (pc := 28) hx hb dX4_pop_28 rfl (lv_at hl 0 rfl) ?_
    refine va_get (pc := 29) (D := G) (ci := 4) (v := .int (nI (pn - 1))) (C := RX4) (T := TX4) (N := 7) hx hb hts hw1 hown hK hP 0 rfl rfl 1 (by decide) hw2 (fun _ h9 => h9) rfl dX4_pop_29 ?_
    have hP9 : va_P G vwCl [(y, .inr (4, [.int (nI (if ¬ (1 ≤ pn) then 1 else 0)), .int (nI (bv_if (if ¬ (1 ≤ pn) then 1 else 0) (pn - 1) pn)), .ref yp, .int (nI bn), .ref yb, .ref yr, .ref yl])), (yp, .inl (cI, 12, .inl pf)), (yb, .inl (cI, 10, .inl bs)), (yr, .inl (cI, 10, .inl br)), (yl, .inl (cI, 16, .inl lv))] H := by rw [if_neg (not_not_intro hck0)]; exact hP
    exact W.iret (pc := 32) (v := (nI (pn - 1))) hx hb hr (fun T8 hT8 hW8 => ⟨⟨(nI (pn - 1)), (), rfl, (by rw [if_neg (not_not_intro hck0)]; rfl), bv_hP hT8 hP9⟩, hS.F hT8⟩) hS.2.2 dX4_pop_32
  · have hbad : ¬ 1 ≤ pn := by
      have h : pn = 0 := (bv_pn0 (by omega)).mp c9_1
      omega
    refine lv_aload_n (pc := 12) hx hb dX4_pop_12 rfl (lv_at hl 0 rfl) ?_
    refine lv_iconst (pc := 13) (v := 1) hx hb dX4_pop_13 (by decide) ?_
    have hPc := hP.sub (ws' := [(y, .inr (4, [.int 0, .int (nI pn), .ref yp, .int (nI bn), .ref yb, .ref yr, .ref yl]))]) [0] rfl
    have hDc := hD.sub (ws' := [(y, .inr (4, [.int 0, .int (nI pn), .ref yp, .int (nI bn), .ref yb, .ref yr, .ref yl]))]) [0] (by decide) rfl
    have hFc := va_free (wc := [(y, .inr (4, [.int 0, .int (nI pn), .ref yp, .int (nI bn), .ref yb, .ref yr, .ref yl]))]) hD hS hA [0] rfl
    refine bv_cMi (pc := 14) (E' := 0) (va_runV (As := [.int 1]) (rest := []) ⟨hx, hb, hml, hown, hts⟩ (m_X4_no l G cI H.size y yp yb yr yl 0 (nI pn) (nI bn) 1 ) (cwV 1 hts gX4_pop_X4_no rfl rfl rfl (by decide +kernel) ⟨Nat.le_of_ble_eq_true rfl, Nat.le_of_ble_eq_true rfl⟩) (bv_pV hE ⟨rfl, hPc, hDc.weaken (fun _ _ _ _ => trivial)⟩ (va_recv hK hP (ci := 4) (q0 := 0) rfl rfl)) rfl rfl hl.1 rfl (lv_room (Nat.le_of_ble_eq_true rfl)) dX4_pop_14 ⟨Nat.le_of_ble_eq_true rfl, Nat.le_of_ble_eq_true rfl⟩) hS (fun q _ h => hFc q h) hFc rfl (fun t8 H1 locs ht8 hvm8 hB8 hz1 hk1 hS => ?_)
    have hP1 : va_P G vwCl [(y, .inr (4, [.int 1, .int (nI pn), .ref yp, .int (nI bn), .ref yb, .ref yr, .ref yl]))] H1 := by rw [← ht8]; exact hB8
    obtain ⟨hP, hD⟩ := va_join (wr := [(yp, .inl (cI, 12, .inl pf)), (yb, .inl (cI, 10, .inl bs)), (yr, .inl (cI, 10, .inl br)), (yl, .inl (cI, 16, .inl lv))]) (w1 := [(y, .inr (4, [.int 1, .int (nI pn), .ref yp, .int (nI bn), .ref yb, .ref yr, .ref yl]))]) hP hD [0] [1, 2, 3, 4] rfl rfl (by decide) (by decide) hk1 hFc hP1 (bv_Dm (w0 := [(y, .inr (4, [.int 0, .int (nI pn), .ref yp, .int (nI bn), .ref yb, .ref yr, .ref yl]))]) [y] rfl rfl hDc.self)
    have hP : va_P G vwCl [(y, .inr (4, [.int 1, .int (nI pn), .ref yp, .int (nI bn), .ref yb, .ref yr, .ref yl])), (yp, .inl (cI, 12, .inl pf)), (yb, .inl (cI, 10, .inl bs)), (yr, .inl (cI, 10, .inl br)), (yl, .inl (cI, 16, .inl lv))] H1 := hP.sub (ws' := [(y, .inr (4, [.int 1, .int (nI pn), .ref yp, .int (nI bn), .ref yb, .ref yr, .ref yl])), (yp, .inl (cI, 12, .inl pf)), (yb, .inl (cI, 10, .inl bs)), (yr, .inl (cI, 10, .inl br)), (yl, .inl (cI, 16, .inl lv))]) [4, 0, 1, 2, 3] rfl
    have hD : va_D A [(y, .inr (4, [.int 1, .int (nI pn), .ref yp, .int (nI bn), .ref yb, .ref yr, .ref yl])), (yp, .inl (cI, 12, .inl pf)), (yb, .inl (cI, 10, .inl bs)), (yr, .inl (cI, 10, .inl br)), (yl, .inl (cI, 16, .inl lv))] := hD.sub (ws' := [(y, .inr (4, [.int 1, .int (nI pn), .ref yp, .int (nI bn), .ref yb, .ref yr, .ref yl])), (yp, .inl (cI, 12, .inl pf)), (yb, .inl (cI, 10, .inl bs)), (yr, .inl (cI, 10, .inl br)), (yl, .inl (cI, 16, .inl lv))]) [4, 0, 1, 2, 3] (by decide) rfl
    generalize H1 = H at hP hS ⊢
    have hP9 : va_P G vwCl [(y, .inr (4, [.int (nI (if ¬ (1 ≤ pn) then 1 else 0)), .int (nI (bv_if (if ¬ (1 ≤ pn) then 1 else 0) (pn - 1) pn)), .ref yp, .int (nI bn), .ref yb, .ref yr, .ref yl])), (yp, .inl (cI, 12, .inl pf)), (yb, .inl (cI, 10, .inl bs)), (yr, .inl (cI, 10, .inl br)), (yl, .inl (cI, 16, .inl lv))] H := by rw [if_pos hbad]; exact hP
    exact W.iret (pc := 17) (v := 0) hx hb hr (fun T8 hT8 hW8 => ⟨⟨0, (), rfl, (by rw [if_pos hbad]; rfl), bv_hP hT8 hP9⟩, hS.F hT8⟩) hS.2.2 dX4_pop_17
set_option maxHeartbeats 4000000 in
set_option maxRecDepth 100000 in
theorem m_X4_height (l : Launch) (G : va_G) (cI : ClassId) (sz : Nat) (y yp yb yr yl pn bn : Nat) (th : Int32) (pf bs br lv : Nat → Int32) (hp : pn ≤ 12) (hn : bn ≤ 10) : Met l yX4_height wsX4_height ({ frames := 0, cells := 0, slots := 0, locals := 0 }) (bv_P [.ref y] G cI (fun H => H.size = sz ∧ va_P G vwCl [(y, .inr (4, [.int th, .int (nI pn), .ref yp, .int (nI bn), .ref yb, .ref yr, .ref yl])), (yp, .inl (cI, 12, .inl pf)), (yb, .inl (cI, 10, .inl bs)), (yr, .inl (cI, 10, .inl br)), (yl, .inl (cI, 16, .inl lv))] H ∧ va_D (fun _ => True) [(y, .inr (4, [.int th, .int (nI pn), .ref yp, .int (nI bn), .ref yb, .ref yr, .ref yl])), (yp, .inl (cI, 12, .inl pf)), (yb, .inl (cI, 10, .inl bs)), (yr, .inl (cI, 10, .inl br)), (yl, .inl (cI, 16, .inl lv))])) (va_Qi (fun (r9 : Int32) (_ : Unit) => r9 = (nI pn)) (fun (_ : Unit) (T9 : State) => va_P G vwCl [(y, .inr (4, [.int 0, .int (nI pn), .ref yp, .int (nI bn), .ref yb, .ref yr, .ref yl])), (yp, .inl (cI, 12, .inl pf)), (yb, .inl (cI, 10, .inl bs)), (yr, .inl (cI, 10, .inl br)), (yl, .inl (cI, 16, .inl lv))] T9.heap) (va_A [(y, .inr (4, [.int th, .int (nI pn), .ref yp, .int (nI bn), .ref yb, .ref yr, .ref yl])), (yp, .inl (cI, 12, .inl pf)), (yb, .inl (cI, 10, .inl bs)), (yr, .inl (cI, 10, .inl br)), (yl, .inl (cI, 16, .inl lv))] sz)) 0 0 (va_A [(y, .inr (4, [.int th, .int (nI pn), .ref yp, .int (nI bn), .ref yb, .ref yr, .ref yl])), (yp, .inl (cI, 12, .inl pf)), (yb, .inl (cI, 10, .inl bs)), (yr, .inl (cI, 10, .inl br)), (yl, .inl (cI, 16, .inl lv))] sz) := by
  refine Met.ofW (cc := cX4_height) (maxL := 1) (ret := (some .int)) (by decide) rfl ?_
  intro p e s m args below meth c s₁ B hml hv
  obtain ⟨rfl, ⟨hsz, hP, hD0⟩, hE⟩ := hv
  have hx := B.exec
  have hb := B.bytes
  have hr := B.returns
  have hts := atoms_spec (ws := wsX4_height) B.pre
  have hown : s.vm.findClass RX4 = some m.cls := findClass_of_methodNamed B.named
  have hlocks := B.notSynchronized
  have hK := hE.1
  have hw0 := hts (.fieldLink RX4 22 "BeliefReviserModel" "thrown" "I") (List.mem_of_getElem? (i := 1) rfl)
  have hw1 : ∀ w ∈ u_ws RX4 TX4 7, w ∈ wsX4_height := by decide +kernel
  have hw2 := hts (.fieldLink RX4 33 "BeliefReviserModel" "high" "I") (List.mem_of_getElem? (i := 2) rfl)
  subst hsz
  have hD := hD0.self (sz := s.heap.size)
  generalize hAe : va_A [(y, .inr (4, [.int th, .int (nI pn), .ref yp, .int (nI bn), .ref yb, .ref yr, .ref yl])), (yp, .inl (cI, 12, .inl pf)), (yb, .inl (cI, 10, .inl bs)), (yr, .inl (cI, 10, .inl br)), (yl, .inl (cI, 16, .inl lv))] s.heap.size = A at hD ⊢
  have hA : ∀ q : Nat, s.heap.size ≤ q → A q := fun q h => by rw [← hAe]; exact Or.inr h
  have hS : va_S A s.heap s.heap [] := va_S.rf
  have hP : va_P G vwCl [(y, .inr (4, [.int th, .int (nI pn), .ref yp, .int (nI bn), .ref yb, .ref yr, .ref yl])), (yp, .inl (cI, 12, .inl pf)), (yb, .inl (cI, 10, .inl bs)), (yr, .inl (cI, 10, .inl br)), (yl, .inl (cI, 16, .inl lv))] s.heap := hP
  have hl := lv_entry ([.ref y]) (n := 1) (Nat.le_of_ble_eq_true rfl)
  rw [lg_entry_eq]
  generalize (lg_sl ([.ref y]) ++ List.replicate (1 - (lg_sl ([.ref y])).length) Slot.unset).toArray = ls at hl ⊢
  have hl : lv_has ls 1 [(0, .ref y)] := hl
  refine lv_aload_n (pc := 0) hx hb dX4_height_0 rfl (lv_at hl 0 rfl) ?_
  refine lv_iconst (pc := 1) (v := 0) hx hb dX4_height_1 (by decide) ?_
  refine va_put (pc := 2) (D := G) (ci := 4) (v := .int 0) (ty := .int) (C := RX4) (T := TX4) (N := 7) hx hb hts hw1 tyX4 tyX4_ok nmX4 hown hK hP hD hS 0 rfl rfl 0 (by decide) hw0 (fun _ h9 => h9) rfl (by decide +kernel) rfl rfl (Nat.le_of_ble_eq_true rfl) dX4_height_2 (fun H locs hP hD hS => ?_)
  have hP : va_P G vwCl [(y, .inr (4, [.int 0, .int (nI pn), .ref yp, .int (nI bn), .ref yb, .ref yr, .ref yl])), (yp, .inl (cI, 12, .inl pf)), (yb, .inl (cI, 10, .inl bs)), (yr, .inl (cI, 10, .inl br)), (yl, .inl (cI, 16, .inl lv))] H := hP
  have hD : va_D A [(y, .inr (4, [.int 0, .int (nI pn), .ref yp, .int (nI bn), .ref yb, .ref yr, .ref yl])), (yp, .inl (cI, 12, .inl pf)), (yb, .inl (cI, 10, .inl bs)), (yr, .inl (cI, 10, .inl br)), (yl, .inl (cI, 16, .inl lv))] := hD
  refine lv_aload_n (pc := 5) hx hb dX4_height_5 rfl (lv_at hl 0 rfl) ?_
  refine va_get (pc := 6) (D := G) (ci := 4) (v := .int (nI pn)) (C := RX4) (T := TX4) (N := 7) hx hb hts hw1 hown hK hP 0 rfl rfl 1 (by decide) hw2 (fun _ h9 => h9) rfl dX4_height_6 ?_
  have hP9 : va_P G vwCl [(y, .inr (4, [.int 0, .int (nI pn), .ref yp, .int (nI bn), .ref yb, .ref yr, .ref yl])), (yp, .inl (cI, 12, .inl pf)), (yb, .inl (cI, 10, .inl bs)), (yr, .inl (cI, 10, .inl br)), (yl, .inl (cI, 16, .inl lv))] H := hP
  exact W.iret (pc := 9) (v := (nI pn)) hx hb hr (fun T8 hT8 hW8 => ⟨⟨(nI pn), (), rfl, rfl, bv_hP hT8 hP9⟩, hS.F hT8⟩) hS.2.2 dX4_height_9
set_option maxHeartbeats 4000000 in
set_option maxRecDepth 100000 in
theorem m_X4_top_ (l : Launch) (G : va_G) (cI : ClassId) (sz : Nat) (y yp yb yr yl pn bn : Nat) (th : Int32) (pf bs br lv : Nat → Int32) (hp : pn ≤ 12) (hn : bn ≤ 10) : Met l yX4_top_ wsX4_top_ ({ frames := 1, cells := 0, slots := 0, locals := 21 }) (bv_P [.ref y] G cI (fun H => H.size = sz ∧ va_P G vwCl [(y, .inr (4, [.int th, .int (nI pn), .ref yp, .int (nI bn), .ref yb, .ref yr, .ref yl])), (yp, .inl (cI, 12, .inl pf)), (yb, .inl (cI, 10, .inl bs)), (yr, .inl (cI, 10, .inl br)), (yl, .inl (cI, 16, .inl lv))] H ∧ va_D (fun _ => True) [(y, .inr (4, [.int th, .int (nI pn), .ref yp, .int (nI bn), .ref yb, .ref yr, .ref yl])), (yp, .inl (cI, 12, .inl pf)), (yb, .inl (cI, 10, .inl bs)), (yr, .inl (cI, 10, .inl br)), (yl, .inl (cI, 16, .inl lv))])) (va_Qi (fun (r9 : Int32) (_ : Unit) => r9 = (bv_if (if ¬ (1 ≤ pn) then 1 else 0) (pf (pn - 1)) 0)) (fun (_ : Unit) (T9 : State) => va_P G vwCl [(y, .inr (4, [.int (nI (if ¬ (1 ≤ pn) then 1 else 0)), .int (nI pn), .ref yp, .int (nI bn), .ref yb, .ref yr, .ref yl])), (yp, .inl (cI, 12, .inl pf)), (yb, .inl (cI, 10, .inl bs)), (yr, .inl (cI, 10, .inl br)), (yl, .inl (cI, 16, .inl lv))] T9.heap) (va_A [(y, .inr (4, [.int th, .int (nI pn), .ref yp, .int (nI bn), .ref yb, .ref yr, .ref yl])), (yp, .inl (cI, 12, .inl pf)), (yb, .inl (cI, 10, .inl bs)), (yr, .inl (cI, 10, .inl br)), (yl, .inl (cI, 16, .inl lv))] sz)) 0 0 (va_A [(y, .inr (4, [.int th, .int (nI pn), .ref yp, .int (nI bn), .ref yb, .ref yr, .ref yl])), (yp, .inl (cI, 12, .inl pf)), (yb, .inl (cI, 10, .inl bs)), (yr, .inl (cI, 10, .inl br)), (yl, .inl (cI, 16, .inl lv))] sz) := by
  refine Met.ofW (cc := cX4_top_) (maxL := 1) (ret := (some .int)) (by decide) rfl ?_
  intro p e s m args below meth c s₁ B hml hv
  obtain ⟨rfl, ⟨hsz, hP, hD0⟩, hE⟩ := hv
  have hx := B.exec
  have hb := B.bytes
  have hr := B.returns
  have hts := atoms_spec (ws := wsX4_top_) B.pre
  have hown : s.vm.findClass RX4 = some m.cls := findClass_of_methodNamed B.named
  have hlocks := B.notSynchronized
  have hK := hE.1
  have hw0 := hts (.fieldLink RX4 22 "BeliefReviserModel" "thrown" "I") (List.mem_of_getElem? (i := 1) rfl)
  have hw1 : ∀ w ∈ u_ws RX4 TX4 7, w ∈ wsX4_top_ := by decide +kernel
  have hw2 := hts (.fieldLink RX4 33 "BeliefReviserModel" "high" "I") (List.mem_of_getElem? (i := 2) rfl)
  subst hsz
  have hD := hD0.self (sz := s.heap.size)
  generalize hAe : va_A [(y, .inr (4, [.int th, .int (nI pn), .ref yp, .int (nI bn), .ref yb, .ref yr, .ref yl])), (yp, .inl (cI, 12, .inl pf)), (yb, .inl (cI, 10, .inl bs)), (yr, .inl (cI, 10, .inl br)), (yl, .inl (cI, 16, .inl lv))] s.heap.size = A at hD ⊢
  have hA : ∀ q : Nat, s.heap.size ≤ q → A q := fun q h => by rw [← hAe]; exact Or.inr h
  have hS : va_S A s.heap s.heap [] := va_S.rf
  have hP : va_P G vwCl [(y, .inr (4, [.int th, .int (nI pn), .ref yp, .int (nI bn), .ref yb, .ref yr, .ref yl])), (yp, .inl (cI, 12, .inl pf)), (yb, .inl (cI, 10, .inl bs)), (yr, .inl (cI, 10, .inl br)), (yl, .inl (cI, 16, .inl lv))] s.heap := hP
  have hl := lv_entry ([.ref y]) (n := 1) (Nat.le_of_ble_eq_true rfl)
  rw [lg_entry_eq]
  generalize (lg_sl ([.ref y]) ++ List.replicate (1 - (lg_sl ([.ref y])).length) Slot.unset).toArray = ls at hl ⊢
  have hl : lv_has ls 1 [(0, .ref y)] := hl
  refine lv_aload_n (pc := 0) hx hb dX4_top__0 rfl (lv_at hl 0 rfl) ?_
  refine lv_iconst (pc := 1) (v := 0) hx hb dX4_top__1 (by decide) ?_
  refine va_put (pc := 2) (D := G) (ci := 4) (v := .int 0) (ty := .int) (C := RX4) (T := TX4) (N := 7) hx hb hts hw1 tyX4 tyX4_ok nmX4 hown hK hP hD hS 0 rfl rfl 0 (by decide) hw0 (fun _ h9 => h9) rfl (by decide +kernel) rfl rfl (Nat.le_of_ble_eq_true rfl) dX4_top__2 (fun H locs hP hD hS => ?_)
  have hP : va_P G vwCl [(y, .inr (4, [.int 0, .int (nI pn), .ref yp, .int (nI bn), .ref yb, .ref yr, .ref yl])), (yp, .inl (cI, 12, .inl pf)), (yb, .inl (cI, 10, .inl bs)), (yr, .inl (cI, 10, .inl br)), (yl, .inl (cI, 16, .inl lv))] H := hP
  have hD : va_D A [(y, .inr (4, [.int 0, .int (nI pn), .ref yp, .int (nI bn), .ref yb, .ref yr, .ref yl])), (yp, .inl (cI, 12, .inl pf)), (yb, .inl (cI, 10, .inl bs)), (yr, .inl (cI, 10, .inl br)), (yl, .inl (cI, 16, .inl lv))] := hD
  refine lv_aload_n (pc := 5) hx hb dX4_top__5 rfl (lv_at hl 0 rfl) ?_
  refine va_get (pc := 6) (D := G) (ci := 4) (v := .int (nI pn)) (C := RX4) (T := TX4) (N := 7) hx hb hts hw1 hown hK hP 0 rfl rfl 1 (by decide) hw2 (fun _ h9 => h9) rfl dX4_top__6 ?_
  refine lv_if_ne (pc := 9) (tgt := 20) hx hb dX4_top__9 (by decide) (fun c9_1 => ?_) (fun c9_1 => ?_)
  · have hck0 : 1 ≤ pn := by
      by_cases h : pn = 0
      · exact absurd (by rw [h]; rfl) c9_1
      · omega
    refine lv_aload_n (pc := 20) hx hb dX4_top__20 rfl (lv_at hl 0 rfl) ?_
    refine lv_iconst (pc := 21) (v := 0) hx hb dX4_top__21 (by decide) ?_
    have hPc := hP.sub (ws' := [(y, .inr (4, [.int 0, .int (nI pn), .ref yp, .int (nI bn), .ref yb, .ref yr, .ref yl])), (yp, .inl (cI, 12, .inl pf))]) [0, 1] rfl
    refine bv_cSi (pc := 22) (E' := (pf (pn - 1))) (va_runV (As := [.int 0]) (rest := []) ⟨hx, hb, hml, hown, hts⟩ (m_X4_top l G cI y yp yb yr yl pn 0 (nI bn) pf 0 hck0 hp) (cwV 1 hts gX4_top__X4_top rfl rfl rfl (by decide +kernel) ⟨Nat.le_of_ble_eq_true rfl, Nat.le_of_ble_eq_true rfl⟩) (bv_pV hE hPc (va_recv hK hP (ci := 4) (q0 := 0) rfl rfl)) rfl rfl hl.1 rfl (lv_room (Nat.le_of_ble_eq_true rfl)) dX4_top__22 ⟨Nat.le_of_ble_eq_true rfl, Nat.le_of_ble_eq_true rfl⟩) (by rw [Nat.sub_zero]) ?_
    have hP9 : va_P G vwCl [(y, .inr (4, [.int (nI (if ¬ (1 ≤ pn) then 1 else 0)), .int (nI pn), .ref yp, .int (nI bn), .ref yb, .ref yr, .ref yl])), (yp, .inl (cI, 12, .inl pf)), (yb, .inl (cI, 10, .inl bs)), (yr, .inl (cI, 10, .inl br)), (yl, .inl (cI, 16, .inl lv))] H := by rw [if_neg (not_not_intro hck0)]; exact hP
    exact W.iret (pc := 25) (v := (pf (pn - 1))) hx hb hr (fun T8 hT8 hW8 => ⟨⟨(pf (pn - 1)), (), rfl, (by rw [if_neg (not_not_intro hck0)]; rfl), bv_hP hT8 hP9⟩, hS.F hT8⟩) hS.2.2 dX4_top__25
  · have hbad : ¬ 1 ≤ pn := by
      have h : pn = 0 := (bv_pn0 (by omega)).mp c9_1
      omega
    refine lv_aload_n (pc := 12) hx hb dX4_top__12 rfl (lv_at hl 0 rfl) ?_
    refine lv_iconst (pc := 13) (v := 1) hx hb dX4_top__13 (by decide) ?_
    have hPc := hP.sub (ws' := [(y, .inr (4, [.int 0, .int (nI pn), .ref yp, .int (nI bn), .ref yb, .ref yr, .ref yl]))]) [0] rfl
    have hDc := hD.sub (ws' := [(y, .inr (4, [.int 0, .int (nI pn), .ref yp, .int (nI bn), .ref yb, .ref yr, .ref yl]))]) [0] (by decide) rfl
    have hFc := va_free (wc := [(y, .inr (4, [.int 0, .int (nI pn), .ref yp, .int (nI bn), .ref yb, .ref yr, .ref yl]))]) hD hS hA [0] rfl
    refine bv_cMi (pc := 14) (E' := 0) (va_runV (As := [.int 1]) (rest := []) ⟨hx, hb, hml, hown, hts⟩ (m_X4_no l G cI H.size y yp yb yr yl 0 (nI pn) (nI bn) 1 ) (cwV 1 hts gX4_top__X4_no rfl rfl rfl (by decide +kernel) ⟨Nat.le_of_ble_eq_true rfl, Nat.le_of_ble_eq_true rfl⟩) (bv_pV hE ⟨rfl, hPc, hDc.weaken (fun _ _ _ _ => trivial)⟩ (va_recv hK hP (ci := 4) (q0 := 0) rfl rfl)) rfl rfl hl.1 rfl (lv_room (Nat.le_of_ble_eq_true rfl)) dX4_top__14 ⟨Nat.le_of_ble_eq_true rfl, Nat.le_of_ble_eq_true rfl⟩) hS (fun q _ h => hFc q h) hFc rfl (fun t8 H1 locs ht8 hvm8 hB8 hz1 hk1 hS => ?_)
    have hP1 : va_P G vwCl [(y, .inr (4, [.int 1, .int (nI pn), .ref yp, .int (nI bn), .ref yb, .ref yr, .ref yl]))] H1 := by rw [← ht8]; exact hB8
    obtain ⟨hP, hD⟩ := va_join (wr := [(yp, .inl (cI, 12, .inl pf)), (yb, .inl (cI, 10, .inl bs)), (yr, .inl (cI, 10, .inl br)), (yl, .inl (cI, 16, .inl lv))]) (w1 := [(y, .inr (4, [.int 1, .int (nI pn), .ref yp, .int (nI bn), .ref yb, .ref yr, .ref yl]))]) hP hD [0] [1, 2, 3, 4] rfl rfl (by decide) (by decide) hk1 hFc hP1 (bv_Dm (w0 := [(y, .inr (4, [.int 0, .int (nI pn), .ref yp, .int (nI bn), .ref yb, .ref yr, .ref yl]))]) [y] rfl rfl hDc.self)
    have hP : va_P G vwCl [(y, .inr (4, [.int 1, .int (nI pn), .ref yp, .int (nI bn), .ref yb, .ref yr, .ref yl])), (yp, .inl (cI, 12, .inl pf)), (yb, .inl (cI, 10, .inl bs)), (yr, .inl (cI, 10, .inl br)), (yl, .inl (cI, 16, .inl lv))] H1 := hP.sub (ws' := [(y, .inr (4, [.int 1, .int (nI pn), .ref yp, .int (nI bn), .ref yb, .ref yr, .ref yl])), (yp, .inl (cI, 12, .inl pf)), (yb, .inl (cI, 10, .inl bs)), (yr, .inl (cI, 10, .inl br)), (yl, .inl (cI, 16, .inl lv))]) [4, 0, 1, 2, 3] rfl
    have hD : va_D A [(y, .inr (4, [.int 1, .int (nI pn), .ref yp, .int (nI bn), .ref yb, .ref yr, .ref yl])), (yp, .inl (cI, 12, .inl pf)), (yb, .inl (cI, 10, .inl bs)), (yr, .inl (cI, 10, .inl br)), (yl, .inl (cI, 16, .inl lv))] := hD.sub (ws' := [(y, .inr (4, [.int 1, .int (nI pn), .ref yp, .int (nI bn), .ref yb, .ref yr, .ref yl])), (yp, .inl (cI, 12, .inl pf)), (yb, .inl (cI, 10, .inl bs)), (yr, .inl (cI, 10, .inl br)), (yl, .inl (cI, 16, .inl lv))]) [4, 0, 1, 2, 3] (by decide) rfl
    generalize H1 = H at hP hS ⊢
    refine lv_goto (pc := 17) (tgt := 25) hx hb dX4_top__17 (by decide) ?_
    have hP9 : va_P G vwCl [(y, .inr (4, [.int (nI (if ¬ (1 ≤ pn) then 1 else 0)), .int (nI pn), .ref yp, .int (nI bn), .ref yb, .ref yr, .ref yl])), (yp, .inl (cI, 12, .inl pf)), (yb, .inl (cI, 10, .inl bs)), (yr, .inl (cI, 10, .inl br)), (yl, .inl (cI, 16, .inl lv))] H := by rw [if_pos hbad]; exact hP
    exact W.iret (pc := 25) (v := 0) hx hb hr (fun T8 hT8 hW8 => ⟨⟨0, (), rfl, (by rw [if_pos hbad]; rfl), bv_hP hT8 hP9⟩, hS.F hT8⟩) hS.2.2 dX4_top__25
