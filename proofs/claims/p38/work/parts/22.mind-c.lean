theorem bv_learn0 {lv ks : Nat → Int32} {S fi : Int32} : bv_learn lv ks 0 S fi = bv_firm lv S fi := by unfold bv_learn; rw [if_pos rfl]
theorem bv_learn1 {lv ks : Nat → Int32} {S fi : Int32} : bv_learn lv ks 1 S fi = bv_nat lv S := by unfold bv_learn; rw [if_neg (by decide), if_pos rfl]
theorem bv_learn2 {lv ks : Nat → Int32} {S fi : Int32} : bv_learn lv ks 2 S fi = bv_strict lv ks S := by unfold bv_learn; rw [if_neg (by decide), if_neg (by decide), if_pos rfl]
theorem bv_learn3 {lv ks : Nat → Int32} {S fi : Int32} : bv_learn lv ks 3 S fi = bv_doubt lv S := by unfold bv_learn; rw [if_neg (by decide), if_neg (by decide), if_neg (by decide)]
theorem bv_lkeys0 {lv ks : Nat → Int32} {S : Int32} : bv_lkeys lv ks 0 S = ks := by unfold bv_lkeys; rw [if_neg (by decide)]
theorem bv_lkeys1 {lv ks : Nat → Int32} {S : Int32} : bv_lkeys lv ks 1 S = ks := by unfold bv_lkeys; rw [if_neg (by decide)]
theorem bv_lkeys2 {lv ks : Nat → Int32} {S : Int32} : bv_lkeys lv ks 2 S = bv_keys lv ks S := by unfold bv_lkeys; rw [if_pos rfl]
theorem bv_lkeys3 {lv ks : Nat → Int32} {S : Int32} : bv_lkeys lv ks 3 S = ks := by unfold bv_lkeys; rw [if_neg (by decide)]

set_option maxHeartbeats 4000000 in
set_option maxRecDepth 100000 in
theorem m_X1_takeFirmly (l : Launch) (G : va_G) (cI : ClassId) (sz : Nat) (xm al ak : Nat) (lv ks : Nat → Int32) (S fi : Int32) : Met l yX1_takeFirmly wsX1_takeFirmly ({ frames := 2, cells := 0, slots := 0, locals := 44 }) (bv_P [.ref xm, .int S, .int fi] G cI (fun H => H.size = sz ∧ va_P G vwCl [(xm, .inr (1, [.ref al, .ref ak])), (al, .inl (cI, 16, .inl lv)), (ak, .inl (cI, 16, .inl ks))] H ∧ va_D (fun _ => True) [(xm, .inr (1, [.ref al, .ref ak])), (al, .inl (cI, 16, .inl lv)), (ak, .inl (cI, 16, .inl ks))])) (va_Qv (fun _ : Unit => True) (fun (_ : Unit) (T9 : State) => va_P G vwCl [(xm, .inr (1, [.ref al, .ref ak])), (al, .inl (cI, 16, .inl (bv_firm lv S fi))), (ak, .inl (cI, 16, .inl ks))] T9.heap) (va_A [(xm, .inr (1, [.ref al, .ref ak])), (al, .inl (cI, 16, .inl lv)), (ak, .inl (cI, 16, .inl ks))] sz)) 0 0 (va_A [(xm, .inr (1, [.ref al, .ref ak])), (al, .inl (cI, 16, .inl lv)), (ak, .inl (cI, 16, .inl ks))] sz) := by
  refine Met.ofW (cc := cX1_takeFirmly) (maxL := 4) (ret := none) (by decide) rfl ?_
  intro p e s m args below meth c s₁ B hml hv
  obtain ⟨rfl, ⟨hsz, hP, hD0⟩, hE⟩ := hv
  have hx := B.exec
  have hb := B.bytes
  have hr := B.returns
  have hts := atoms_spec (ws := wsX1_takeFirmly) B.pre
  have hown : s.vm.findClass RX1 = some m.cls := findClass_of_methodNamed B.named
  have hlocks := B.notSynchronized
  have hK := hE.1
  have hw0 := hts (.static yX3_not) (List.mem_of_getElem? (i := 1) rfl)
  have hw1 := hts (.initialized RX3) (List.mem_of_getElem? (i := 2) rfl)
  have hw2 : va_Nw (.methodLinkNest RX1 54 yX3_not RX3) s := hE.2 (RX1, 54, yX3_not) (List.mem_of_getElem? (i := 8) rfl)
  subst hsz
  have hD := hD0.self (sz := s.heap.size)
  generalize hAe : va_A [(xm, .inr (1, [.ref al, .ref ak])), (al, .inl (cI, 16, .inl lv)), (ak, .inl (cI, 16, .inl ks))] s.heap.size = A at hD ⊢
  have hA : ∀ q : Nat, s.heap.size ≤ q → A q := fun q h => by rw [← hAe]; exact Or.inr h
  have hS : va_S A s.heap s.heap [] := va_S.rf
  have hP : va_P G vwCl [(xm, .inr (1, [.ref al, .ref ak])), (al, .inl (cI, 16, .inl lv)), (ak, .inl (cI, 16, .inl ks))] s.heap := hP
  have hl := lv_entry ([.ref xm, .int S, .int fi]) (n := 4) (Nat.le_of_ble_eq_true rfl)
  rw [lg_entry_eq]
  generalize (lg_sl ([.ref xm, .int S, .int fi]) ++ List.replicate (4 - (lg_sl ([.ref xm, .int S, .int fi])).length) Slot.unset).toArray = ls at hl ⊢
  have hl : lv_has ls 4 [(0, .ref xm), (1, .int S), (2, .int fi)] := hl
  refine lv_iload_n (pc := 0) hx hb dX1_takeFirmly_0 rfl (lv_at hl 1 rfl) ?_
  have hPc := hP.sub (ws' := []) [] rfl
  refine bv_cSi (pc := 1) (E' := (bv_not S)) (va_runSN (As := [.int S]) (rest := []) ⟨hx, hb, hml, hown, hts⟩ (m_X3_not l G cI S ) ⟨va_cnB 1 hts gX1_takeFirmly_X3_not_n54 rfl rfl rfl hw2 hw1 (by decide +kernel) ⟨Nat.le_of_ble_eq_true rfl, Nat.le_of_ble_eq_true rfl⟩, hw0, trivial⟩ (bv_pS hE hPc) rfl rfl hl.1 rfl (lv_room (Nat.le_of_ble_eq_true rfl)) dX1_takeFirmly_1 ⟨Nat.le_of_ble_eq_true rfl, Nat.le_of_ble_eq_true rfl⟩) rfl ?_
  refine lv_istore_n (pc := 4) (lv' := [(3, .int (bv_not S)), (0, .ref xm), (1, .int S), (2, .int fi)]) hx hb dX1_takeFirmly_4 rfl hl (by decide) rfl (fun ls hl => ?_)
  refine lv_aload_n (pc := 5) hx hb dX1_takeFirmly_5 rfl (lv_at hl 1 rfl) ?_
  refine lv_iload_n (pc := 6) hx hb dX1_takeFirmly_6 rfl (lv_at hl 2 rfl) ?_
  refine lv_aload_n (pc := 7) hx hb dX1_takeFirmly_7 rfl (lv_at hl 1 rfl) ?_
  refine lv_iload_n (pc := 8) hx hb dX1_takeFirmly_8 rfl (lv_at hl 2 rfl) ?_
  have hPc := hP.sub (ws' := [(xm, .inr (1, [.ref al, .ref ak])), (al, .inl (cI, 16, .inl lv)), (ak, .inl (cI, 16, .inl ks))]) [0, 1, 2] rfl
  refine bv_cSi (pc := 9) (E' := (bv_ll lv S 16)) (va_runV (As := [.int S]) (rest := [.int S, .ref xm]) ⟨hx, hb, hml, hown, hts⟩ (m_X1_leastLevel l G cI xm al ak lv ks S ) (cwV 1 hts gX1_takeFirmly_X1_leastLevel rfl rfl rfl (by decide +kernel) ⟨Nat.le_of_ble_eq_true rfl, Nat.le_of_ble_eq_true rfl⟩) (bv_pV hE hPc (va_recv hK hP (ci := 1) (q0 := 0) rfl rfl)) rfl rfl hl.1 rfl (lv_room (Nat.le_of_ble_eq_true rfl)) dX1_takeFirmly_9 ⟨Nat.le_of_ble_eq_true rfl, Nat.le_of_ble_eq_true rfl⟩) rfl ?_
  refine lv_ineg (pc := 12) hx hb dX1_takeFirmly_12 ?_
  have hPc := hP.sub (ws' := [(xm, .inr (1, [.ref al, .ref ak])), (al, .inl (cI, 16, .inl lv)), (ak, .inl (cI, 16, .inl ks))]) [0, 1, 2] rfl
  have hDc := hD.sub (ws' := [(xm, .inr (1, [.ref al, .ref ak])), (al, .inl (cI, 16, .inl lv)), (ak, .inl (cI, 16, .inl ks))]) [0, 1, 2] (by decide) rfl
  have hFc := va_free (wc := [(xm, .inr (1, [.ref al, .ref ak])), (al, .inl (cI, 16, .inl lv)), (ak, .inl (cI, 16, .inl ks))]) hD hS hA [0, 1, 2] rfl
  refine va_callv (pc := 13) (va_runV (As := [.int S, .int (-(bv_ll lv S 16))]) (rest := []) ⟨hx, hb, hml, hown, hts⟩ (m_X1_shift l G cI s.heap.size xm al ak lv ks S (-(bv_ll lv S 16)) ) (cwV 2 hts gX1_takeFirmly_X1_shift rfl rfl rfl (by decide +kernel) ⟨Nat.le_of_ble_eq_true rfl, Nat.le_of_ble_eq_true rfl⟩) (bv_pV hE ⟨rfl, hPc, hDc.weaken (fun _ _ _ _ => trivial)⟩ (va_recv hK hP (ci := 1) (q0 := 0) rfl rfl)) rfl rfl hl.1 rfl (lv_room (Nat.le_of_ble_eq_true rfl)) dX1_takeFirmly_13 ⟨Nat.le_of_ble_eq_true rfl, Nat.le_of_ble_eq_true rfl⟩) hS (fun q _ h => hFc q h) hFc (fun u8 t8 H1 locs ht8 hvm8 e_6 hB8 hz1 hk1 hS => ?_)
  have hP1 : va_P G vwCl [(xm, .inr (1, [.ref al, .ref ak])), (al, .inl (cI, 16, .inl (bv_sh lv S (-(bv_ll lv S 16)) 16))), (ak, .inl (cI, 16, .inl ks))] H1 := by rw [← ht8]; exact hB8
  obtain ⟨hP, hD⟩ := va_join (wr := []) (w1 := [(xm, .inr (1, [.ref al, .ref ak])), (al, .inl (cI, 16, .inl (bv_sh lv S (-(bv_ll lv S 16)) 16))), (ak, .inl (cI, 16, .inl ks))]) hP hD [0, 1, 2] [] rfl rfl (by decide) (by decide) hk1 hFc hP1 (bv_Dm (w0 := [(xm, .inr (1, [.ref al, .ref ak])), (al, .inl (cI, 16, .inl lv)), (ak, .inl (cI, 16, .inl ks))]) [xm, al, ak] rfl rfl hDc.self)
  have hP : va_P G vwCl [(xm, .inr (1, [.ref al, .ref ak])), (al, .inl (cI, 16, .inl (bv_sh lv S (-(bv_ll lv S 16)) 16))), (ak, .inl (cI, 16, .inl ks))] H1 := hP.sub (ws' := [(xm, .inr (1, [.ref al, .ref ak])), (al, .inl (cI, 16, .inl (bv_sh lv S (-(bv_ll lv S 16)) 16))), (ak, .inl (cI, 16, .inl ks))]) [0, 1, 2] rfl
  have hD : va_D A [(xm, .inr (1, [.ref al, .ref ak])), (al, .inl (cI, 16, .inl (bv_sh lv S (-(bv_ll lv S 16)) 16))), (ak, .inl (cI, 16, .inl ks))] := hD.sub (ws' := [(xm, .inr (1, [.ref al, .ref ak])), (al, .inl (cI, 16, .inl (bv_sh lv S (-(bv_ll lv S 16)) 16))), (ak, .inl (cI, 16, .inl ks))]) [0, 1, 2] (by decide) rfl
  generalize H1 = H at hP hS ⊢
  refine lv_aload_n (pc := 16) hx hb dX1_takeFirmly_16 rfl (lv_at hl 1 rfl) ?_
  refine lv_iload_n (pc := 17) hx hb dX1_takeFirmly_17 rfl (lv_at hl 0 rfl) ?_
  refine lv_iload_n (pc := 18) hx hb dX1_takeFirmly_18 rfl (lv_at hl 3 rfl) ?_
  refine lv_aload_n (pc := 19) hx hb dX1_takeFirmly_19 rfl (lv_at hl 1 rfl) ?_
  refine lv_iload_n (pc := 20) hx hb dX1_takeFirmly_20 rfl (lv_at hl 0 rfl) ?_
  have hPc := hP.sub (ws' := [(xm, .inr (1, [.ref al, .ref ak])), (al, .inl (cI, 16, .inl (bv_sh lv S (-(bv_ll lv S 16)) 16))), (ak, .inl (cI, 16, .inl ks))]) [0, 1, 2] rfl
  refine bv_cSi (pc := 21) (E' := (bv_ll (bv_sh lv S (-(bv_ll lv S 16)) 16) (bv_not S) 16)) (va_runV (As := [.int (bv_not S)]) (rest := [.int fi, .int (bv_not S), .ref xm]) ⟨hx, hb, hml, hown, hts⟩ (m_X1_leastLevel l G cI xm al ak (bv_sh lv S (-(bv_ll lv S 16)) 16) ks (bv_not S) ) (cwV 1 hts gX1_takeFirmly_X1_leastLevel rfl rfl rfl (by decide +kernel) ⟨Nat.le_of_ble_eq_true rfl, Nat.le_of_ble_eq_true rfl⟩) (bv_pV hE hPc (va_recv hK hP (ci := 1) (q0 := 0) rfl rfl)) rfl rfl hl.1 rfl (lv_room (Nat.le_of_ble_eq_true rfl)) dX1_takeFirmly_21 ⟨Nat.le_of_ble_eq_true rfl, Nat.le_of_ble_eq_true rfl⟩) rfl ?_
  refine lv_isub (pc := 24) hx hb dX1_takeFirmly_24 ?_
  have hPc := hP.sub (ws' := [(xm, .inr (1, [.ref al, .ref ak])), (al, .inl (cI, 16, .inl (bv_sh lv S (-(bv_ll lv S 16)) 16))), (ak, .inl (cI, 16, .inl ks))]) [0, 1, 2] rfl
  have hDc := hD.sub (ws' := [(xm, .inr (1, [.ref al, .ref ak])), (al, .inl (cI, 16, .inl (bv_sh lv S (-(bv_ll lv S 16)) 16))), (ak, .inl (cI, 16, .inl ks))]) [0, 1, 2] (by decide) rfl
  have hFc := va_free (wc := [(xm, .inr (1, [.ref al, .ref ak])), (al, .inl (cI, 16, .inl (bv_sh lv S (-(bv_ll lv S 16)) 16))), (ak, .inl (cI, 16, .inl ks))]) hD hS hA [0, 1, 2] rfl
  refine va_callv (pc := 25) (va_runV (As := [.int (bv_not S), .int (fi - (bv_ll (bv_sh lv S (-(bv_ll lv S 16)) 16) (bv_not S) 16))]) (rest := []) ⟨hx, hb, hml, hown, hts⟩ (m_X1_shift l G cI H.size xm al ak (bv_sh lv S (-(bv_ll lv S 16)) 16) ks (bv_not S) (fi - (bv_ll (bv_sh lv S (-(bv_ll lv S 16)) 16) (bv_not S) 16)) ) (cwV 2 hts gX1_takeFirmly_X1_shift rfl rfl rfl (by decide +kernel) ⟨Nat.le_of_ble_eq_true rfl, Nat.le_of_ble_eq_true rfl⟩) (bv_pV hE ⟨rfl, hPc, hDc.weaken (fun _ _ _ _ => trivial)⟩ (va_recv hK hP (ci := 1) (q0 := 0) rfl rfl)) rfl rfl hl.1 rfl (lv_room (Nat.le_of_ble_eq_true rfl)) dX1_takeFirmly_25 ⟨Nat.le_of_ble_eq_true rfl, Nat.le_of_ble_eq_true rfl⟩) hS (fun q _ h => hFc q h) hFc (fun u8 t8 H1 locs ht8 hvm8 e_10 hB8 hz1 hk1 hS => ?_)
  have hP1 : va_P G vwCl [(xm, .inr (1, [.ref al, .ref ak])), (al, .inl (cI, 16, .inl (bv_sh (bv_sh lv S (-(bv_ll lv S 16)) 16) (bv_not S) (fi - (bv_ll (bv_sh lv S (-(bv_ll lv S 16)) 16) (bv_not S) 16)) 16))), (ak, .inl (cI, 16, .inl ks))] H1 := by rw [← ht8]; exact hB8
  obtain ⟨hP, hD⟩ := va_join (wr := []) (w1 := [(xm, .inr (1, [.ref al, .ref ak])), (al, .inl (cI, 16, .inl (bv_sh (bv_sh lv S (-(bv_ll lv S 16)) 16) (bv_not S) (fi - (bv_ll (bv_sh lv S (-(bv_ll lv S 16)) 16) (bv_not S) 16)) 16))), (ak, .inl (cI, 16, .inl ks))]) hP hD [0, 1, 2] [] rfl rfl (by decide) (by decide) hk1 hFc hP1 (bv_Dm (w0 := [(xm, .inr (1, [.ref al, .ref ak])), (al, .inl (cI, 16, .inl (bv_sh lv S (-(bv_ll lv S 16)) 16))), (ak, .inl (cI, 16, .inl ks))]) [xm, al, ak] rfl rfl hDc.self)
  have hP : va_P G vwCl [(xm, .inr (1, [.ref al, .ref ak])), (al, .inl (cI, 16, .inl (bv_sh (bv_sh lv S (-(bv_ll lv S 16)) 16) (bv_not S) (fi - (bv_ll (bv_sh lv S (-(bv_ll lv S 16)) 16) (bv_not S) 16)) 16))), (ak, .inl (cI, 16, .inl ks))] H1 := hP.sub (ws' := [(xm, .inr (1, [.ref al, .ref ak])), (al, .inl (cI, 16, .inl (bv_sh (bv_sh lv S (-(bv_ll lv S 16)) 16) (bv_not S) (fi - (bv_ll (bv_sh lv S (-(bv_ll lv S 16)) 16) (bv_not S) 16)) 16))), (ak, .inl (cI, 16, .inl ks))]) [0, 1, 2] rfl
  have hD : va_D A [(xm, .inr (1, [.ref al, .ref ak])), (al, .inl (cI, 16, .inl (bv_sh (bv_sh lv S (-(bv_ll lv S 16)) 16) (bv_not S) (fi - (bv_ll (bv_sh lv S (-(bv_ll lv S 16)) 16) (bv_not S) 16)) 16))), (ak, .inl (cI, 16, .inl ks))] := hD.sub (ws' := [(xm, .inr (1, [.ref al, .ref ak])), (al, .inl (cI, 16, .inl (bv_sh (bv_sh lv S (-(bv_ll lv S 16)) 16) (bv_not S) (fi - (bv_ll (bv_sh lv S (-(bv_ll lv S 16)) 16) (bv_not S) 16)) 16))), (ak, .inl (cI, 16, .inl ks))]) [0, 1, 2] (by decide) rfl
  generalize H1 = H at hP hS ⊢
  have hP9 : va_P G vwCl [(xm, .inr (1, [.ref al, .ref ak])), (al, .inl (cI, 16, .inl (bv_firm lv S fi))), (ak, .inl (cI, 16, .inl ks))] H := by rw [bv_firm, bv_firm1]; exact hP
  exact W.vret (pc := 28) hx hb hr (fun T8 hT8 hW8 => ⟨⟨(), rfl, trivial, bv_hP hT8 hP9⟩, hS.F hT8⟩) hS.2.2 dX1_takeFirmly_28
set_option maxHeartbeats 4000000 in
set_option maxRecDepth 100000 in
theorem m_X1_takeNaturally (l : Launch) (G : va_G) (cI : ClassId) (sz : Nat) (xm al ak : Nat) (lv ks : Nat → Int32) (S : Int32) : Met l yX1_takeNaturally wsX1_takeNaturally ({ frames := 3, cells := 0, slots := 0, locals := 66 }) (bv_P [.ref xm, .int S] G cI (fun H => H.size = sz ∧ va_P G vwCl [(xm, .inr (1, [.ref al, .ref ak])), (al, .inl (cI, 16, .inl lv)), (ak, .inl (cI, 16, .inl ks))] H ∧ va_D (fun _ => True) [(xm, .inr (1, [.ref al, .ref ak])), (al, .inl (cI, 16, .inl lv)), (ak, .inl (cI, 16, .inl ks))])) (va_Qv (fun _ : Unit => True) (fun (_ : Unit) (T9 : State) => va_P G vwCl [(xm, .inr (1, [.ref al, .ref ak])), (al, .inl (cI, 16, .inl (bv_nat lv S))), (ak, .inl (cI, 16, .inl ks))] T9.heap) (va_A [(xm, .inr (1, [.ref al, .ref ak])), (al, .inl (cI, 16, .inl lv)), (ak, .inl (cI, 16, .inl ks))] sz)) 0 0 (va_A [(xm, .inr (1, [.ref al, .ref ak])), (al, .inl (cI, 16, .inl lv)), (ak, .inl (cI, 16, .inl ks))] sz) := by
  refine Met.ofW (cc := cX1_takeNaturally) (maxL := 3) (ret := none) (by decide) rfl ?_
  intro p e s m args below meth c s₁ B hml hv
  obtain ⟨rfl, ⟨hsz, hP, hD0⟩, hE⟩ := hv
  have hx := B.exec
  have hb := B.bytes
  have hr := B.returns
  have hts := atoms_spec (ws := wsX1_takeNaturally) B.pre
  have hown : s.vm.findClass RX1 = some m.cls := findClass_of_methodNamed B.named
  have hlocks := B.notSynchronized
  have hK := hE.1
  have hw0 := hts (.constant RX1 22 65535) (List.mem_of_getElem? (i := 1) rfl)
  subst hsz
  have hD := hD0.self (sz := s.heap.size)
  generalize hAe : va_A [(xm, .inr (1, [.ref al, .ref ak])), (al, .inl (cI, 16, .inl lv)), (ak, .inl (cI, 16, .inl ks))] s.heap.size = A at hD ⊢
  have hA : ∀ q : Nat, s.heap.size ≤ q → A q := fun q h => by rw [← hAe]; exact Or.inr h
  have hS : va_S A s.heap s.heap [] := va_S.rf
  have hP : va_P G vwCl [(xm, .inr (1, [.ref al, .ref ak])), (al, .inl (cI, 16, .inl lv)), (ak, .inl (cI, 16, .inl ks))] s.heap := hP
  have hl := lv_entry ([.ref xm, .int S]) (n := 3) (Nat.le_of_ble_eq_true rfl)
  rw [lg_entry_eq]
  generalize (lg_sl ([.ref xm, .int S]) ++ List.replicate (3 - (lg_sl ([.ref xm, .int S])).length) Slot.unset).toArray = ls at hl ⊢
  have hl : lv_has ls 3 [(0, .ref xm), (1, .int S)] := hl
  refine lv_aload_n (pc := 0) hx hb dX1_takeNaturally_0 rfl (lv_at hl 0 rfl) ?_
  refine lv_iload_n (pc := 1) hx hb dX1_takeNaturally_1 rfl (lv_at hl 1 rfl) ?_
  have hPc := hP.sub (ws' := [(xm, .inr (1, [.ref al, .ref ak])), (al, .inl (cI, 16, .inl lv)), (ak, .inl (cI, 16, .inl ks))]) [0, 1, 2] rfl
  refine bv_cSi (pc := 2) (E' := (bv_mp lv S)) (va_runV (As := [.int S]) (rest := []) ⟨hx, hb, hml, hown, hts⟩ (m_X1_mostPlausible l G cI xm al ak lv ks S ) (cwV 1 hts gX1_takeNaturally_X1_mostPlausible rfl rfl rfl (by decide +kernel) ⟨Nat.le_of_ble_eq_true rfl, Nat.le_of_ble_eq_true rfl⟩) (bv_pV hE hPc (va_recv hK hP (ci := 1) (q0 := 0) rfl rfl)) rfl rfl hl.1 rfl (lv_room (Nat.le_of_ble_eq_true rfl)) dX1_takeNaturally_2 ⟨Nat.le_of_ble_eq_true rfl, Nat.le_of_ble_eq_true rfl⟩) rfl ?_
  refine lv_istore_n (pc := 5) (lv' := [(2, .int (bv_mp lv S)), (0, .ref xm), (1, .int S)]) hx hb dX1_takeNaturally_5 rfl hl (by decide) rfl (fun ls hl => ?_)
  refine lv_aload_n (pc := 6) hx hb dX1_takeNaturally_6 rfl (lv_at hl 1 rfl) ?_
  refine lv_ldc (pc := 7) hx hb hown hw0 dX1_takeNaturally_7 ?_
  refine lv_iconst (pc := 9) (v := 1) hx hb dX1_takeNaturally_9 (by decide) ?_
  have hPc := hP.sub (ws' := [(xm, .inr (1, [.ref al, .ref ak])), (al, .inl (cI, 16, .inl lv)), (ak, .inl (cI, 16, .inl ks))]) [0, 1, 2] rfl
  have hDc := hD.sub (ws' := [(xm, .inr (1, [.ref al, .ref ak])), (al, .inl (cI, 16, .inl lv)), (ak, .inl (cI, 16, .inl ks))]) [0, 1, 2] (by decide) rfl
  have hFc := va_free (wc := [(xm, .inr (1, [.ref al, .ref ak])), (al, .inl (cI, 16, .inl lv)), (ak, .inl (cI, 16, .inl ks))]) hD hS hA [0, 1, 2] rfl
  refine va_callv (pc := 10) (va_runV (As := [.int 65535, .int 1]) (rest := []) ⟨hx, hb, hml, hown, hts⟩ (m_X1_shift l G cI s.heap.size xm al ak lv ks 65535 1 ) (cwV 2 hts gX1_takeNaturally_X1_shift rfl rfl rfl (by decide +kernel) ⟨Nat.le_of_ble_eq_true rfl, Nat.le_of_ble_eq_true rfl⟩) (bv_pV hE ⟨rfl, hPc, hDc.weaken (fun _ _ _ _ => trivial)⟩ (va_recv hK hP (ci := 1) (q0 := 0) rfl rfl)) rfl rfl hl.1 rfl (lv_room (Nat.le_of_ble_eq_true rfl)) dX1_takeNaturally_10 ⟨Nat.le_of_ble_eq_true rfl, Nat.le_of_ble_eq_true rfl⟩) hS (fun q _ h => hFc q h) hFc (fun u8 t8 H1 locs ht8 hvm8 e_4 hB8 hz1 hk1 hS => ?_)
  have hP1 : va_P G vwCl [(xm, .inr (1, [.ref al, .ref ak])), (al, .inl (cI, 16, .inl (bv_sh lv 65535 1 16))), (ak, .inl (cI, 16, .inl ks))] H1 := by rw [← ht8]; exact hB8
  obtain ⟨hP, hD⟩ := va_join (wr := []) (w1 := [(xm, .inr (1, [.ref al, .ref ak])), (al, .inl (cI, 16, .inl (bv_sh lv 65535 1 16))), (ak, .inl (cI, 16, .inl ks))]) hP hD [0, 1, 2] [] rfl rfl (by decide) (by decide) hk1 hFc hP1 (bv_Dm (w0 := [(xm, .inr (1, [.ref al, .ref ak])), (al, .inl (cI, 16, .inl lv)), (ak, .inl (cI, 16, .inl ks))]) [xm, al, ak] rfl rfl hDc.self)
  have hP : va_P G vwCl [(xm, .inr (1, [.ref al, .ref ak])), (al, .inl (cI, 16, .inl (bv_sh lv 65535 1 16))), (ak, .inl (cI, 16, .inl ks))] H1 := hP.sub (ws' := [(xm, .inr (1, [.ref al, .ref ak])), (al, .inl (cI, 16, .inl (bv_sh lv 65535 1 16))), (ak, .inl (cI, 16, .inl ks))]) [0, 1, 2] rfl
  have hD : va_D A [(xm, .inr (1, [.ref al, .ref ak])), (al, .inl (cI, 16, .inl (bv_sh lv 65535 1 16))), (ak, .inl (cI, 16, .inl ks))] := hD.sub (ws' := [(xm, .inr (1, [.ref al, .ref ak])), (al, .inl (cI, 16, .inl (bv_sh lv 65535 1 16))), (ak, .inl (cI, 16, .inl ks))]) [0, 1, 2] (by decide) rfl
  generalize H1 = H at hP hS ⊢
  refine lv_aload_n (pc := 13) hx hb dX1_takeNaturally_13 rfl (lv_at hl 1 rfl) ?_
  refine lv_iload_n (pc := 14) hx hb dX1_takeNaturally_14 rfl (lv_at hl 0 rfl) ?_
  have hPc := hP.sub (ws' := [(xm, .inr (1, [.ref al, .ref ak])), (al, .inl (cI, 16, .inl (bv_sh lv 65535 1 16))), (ak, .inl (cI, 16, .inl ks))]) [0, 1, 2] rfl
  have hDc := hD.sub (ws' := [(xm, .inr (1, [.ref al, .ref ak])), (al, .inl (cI, 16, .inl (bv_sh lv 65535 1 16))), (ak, .inl (cI, 16, .inl ks))]) [0, 1, 2] (by decide) rfl
  have hFc := va_free (wc := [(xm, .inr (1, [.ref al, .ref ak])), (al, .inl (cI, 16, .inl (bv_sh lv 65535 1 16))), (ak, .inl (cI, 16, .inl ks))]) hD hS hA [0, 1, 2] rfl
  refine va_callv (pc := 15) (va_runV (As := [.int (bv_mp lv S)]) (rest := []) ⟨hx, hb, hml, hown, hts⟩ (m_X1_bringForward l G cI H.size xm al ak (bv_sh lv 65535 1 16) ks (bv_mp lv S) ) (cwV 1 hts gX1_takeNaturally_X1_bringForward rfl rfl rfl (by decide +kernel) ⟨Nat.le_of_ble_eq_true rfl, Nat.le_of_ble_eq_true rfl⟩) (bv_pV hE ⟨rfl, hPc, hDc.weaken (fun _ _ _ _ => trivial)⟩ (va_recv hK hP (ci := 1) (q0 := 0) rfl rfl)) rfl rfl hl.1 rfl (lv_room (Nat.le_of_ble_eq_true rfl)) dX1_takeNaturally_15 ⟨Nat.le_of_ble_eq_true rfl, Nat.le_of_ble_eq_true rfl⟩) hS (fun q _ h => hFc q h) hFc (fun u8 t8 H1 locs ht8 hvm8 e_6 hB8 hz1 hk1 hS => ?_)
  have hP1 : va_P G vwCl [(xm, .inr (1, [.ref al, .ref ak])), (al, .inl (cI, 16, .inl (bv_bf (bv_sh lv 65535 1 16) (bv_mp lv S) 16))), (ak, .inl (cI, 16, .inl ks))] H1 := by rw [← ht8]; exact hB8
  obtain ⟨hP, hD⟩ := va_join (wr := []) (w1 := [(xm, .inr (1, [.ref al, .ref ak])), (al, .inl (cI, 16, .inl (bv_bf (bv_sh lv 65535 1 16) (bv_mp lv S) 16))), (ak, .inl (cI, 16, .inl ks))]) hP hD [0, 1, 2] [] rfl rfl (by decide) (by decide) hk1 hFc hP1 (bv_Dm (w0 := [(xm, .inr (1, [.ref al, .ref ak])), (al, .inl (cI, 16, .inl (bv_sh lv 65535 1 16))), (ak, .inl (cI, 16, .inl ks))]) [xm, al, ak] rfl rfl hDc.self)
  have hP : va_P G vwCl [(xm, .inr (1, [.ref al, .ref ak])), (al, .inl (cI, 16, .inl (bv_bf (bv_sh lv 65535 1 16) (bv_mp lv S) 16))), (ak, .inl (cI, 16, .inl ks))] H1 := hP.sub (ws' := [(xm, .inr (1, [.ref al, .ref ak])), (al, .inl (cI, 16, .inl (bv_bf (bv_sh lv 65535 1 16) (bv_mp lv S) 16))), (ak, .inl (cI, 16, .inl ks))]) [0, 1, 2] rfl
  have hD : va_D A [(xm, .inr (1, [.ref al, .ref ak])), (al, .inl (cI, 16, .inl (bv_bf (bv_sh lv 65535 1 16) (bv_mp lv S) 16))), (ak, .inl (cI, 16, .inl ks))] := hD.sub (ws' := [(xm, .inr (1, [.ref al, .ref ak])), (al, .inl (cI, 16, .inl (bv_bf (bv_sh lv 65535 1 16) (bv_mp lv S) 16))), (ak, .inl (cI, 16, .inl ks))]) [0, 1, 2] (by decide) rfl
  generalize H1 = H at hP hS ⊢
  have hP9 : va_P G vwCl [(xm, .inr (1, [.ref al, .ref ak])), (al, .inl (cI, 16, .inl (bv_nat lv S))), (ak, .inl (cI, 16, .inl ks))] H := by rw [bv_nat]; exact hP
  exact W.vret (pc := 18) hx hb hr (fun T8 hT8 hW8 => ⟨⟨(), rfl, trivial, bv_hP hT8 hP9⟩, hS.F hT8⟩) hS.2.2 dX1_takeNaturally_18
set_option maxHeartbeats 4000000 in
set_option maxRecDepth 100000 in
theorem m_X1_take (l : Launch) (G : va_G) (cI : ClassId) (sz : Nat) (xm al ak : Nat) (lv ks : Nat → Int32) (wy : Nat) (S fi : Int32) (hwy : wy < 4) : Met l yX1_take wsX1_take ({ frames := 5, cells := 0, slots := 0, locals := 110 }) (bv_P [.ref xm, .int (nI wy), .int S, .int fi] G cI (fun H => H.size = sz ∧ va_P G vwCl [(xm, .inr (1, [.ref al, .ref ak])), (al, .inl (cI, 16, .inl lv)), (ak, .inl (cI, 16, .inl ks))] H ∧ va_D (fun _ => True) [(xm, .inr (1, [.ref al, .ref ak])), (al, .inl (cI, 16, .inl lv)), (ak, .inl (cI, 16, .inl ks))])) (va_Qv (fun _ : Unit => True) (fun (_ : Unit) (T9 : State) => va_P G vwCl [(xm, .inr (1, [.ref al, .ref ak])), (al, .inl (cI, 16, .inl (bv_learn lv ks wy S fi))), (ak, .inl (cI, 16, .inl (bv_lkeys lv ks wy S)))] T9.heap) (va_A [(xm, .inr (1, [.ref al, .ref ak])), (al, .inl (cI, 16, .inl lv)), (ak, .inl (cI, 16, .inl ks))] sz)) 0 0 (va_A [(xm, .inr (1, [.ref al, .ref ak])), (al, .inl (cI, 16, .inl lv)), (ak, .inl (cI, 16, .inl ks))] sz) := by
  refine Met.ofW (cc := cX1_take) (maxL := 4) (ret := none) (by decide) rfl ?_
  intro p e s m args below meth c s₁ B hml hv
  obtain ⟨rfl, ⟨hsz, hP, hD0⟩, hE⟩ := hv
  have hx := B.exec
  have hb := B.bytes
  have hr := B.returns
  have hts := atoms_spec (ws := wsX1_take) B.pre
  have hown : s.vm.findClass RX1 = some m.cls := findClass_of_methodNamed B.named
  have hlocks := B.notSynchronized
  have hK := hE.1
  have hw0 := hts (.static yX3_not) (List.mem_of_getElem? (i := 6) rfl)
  have hw1 := hts (.initialized RX3) (List.mem_of_getElem? (i := 7) rfl)
  have hw2 : va_Nw (.methodLinkNest RX1 54 yX3_not RX3) s := hE.2 (RX1, 54, yX3_not) (List.mem_of_getElem? (i := 8) rfl)
  subst hsz
  have hD := hD0.self (sz := s.heap.size)
  generalize hAe : va_A [(xm, .inr (1, [.ref al, .ref ak])), (al, .inl (cI, 16, .inl lv)), (ak, .inl (cI, 16, .inl ks))] s.heap.size = A at hD ⊢
  have hA : ∀ q : Nat, s.heap.size ≤ q → A q := fun q h => by rw [← hAe]; exact Or.inr h
  have hS : va_S A s.heap s.heap [] := va_S.rf
  have hP : va_P G vwCl [(xm, .inr (1, [.ref al, .ref ak])), (al, .inl (cI, 16, .inl lv)), (ak, .inl (cI, 16, .inl ks))] s.heap := hP
  have hl := lv_entry ([.ref xm, .int (nI wy), .int S, .int fi]) (n := 4) (Nat.le_of_ble_eq_true rfl)
  rw [lg_entry_eq]
  generalize (lg_sl ([.ref xm, .int (nI wy), .int S, .int fi]) ++ List.replicate (4 - (lg_sl ([.ref xm, .int (nI wy), .int S, .int fi])).length) Slot.unset).toArray = ls at hl ⊢
  have hl : lv_has ls 4 [(0, .ref xm), (1, .int (nI wy)), (2, .int S), (3, .int fi)] := hl
  refine lv_iload_n (pc := 0) hx hb dX1_take_0 rfl (lv_at hl 1 rfl) ?_
  rcases (show wy = 0 ∨ wy = 1 ∨ wy = 2 ∨ wy = 3 by omega) with rfl | rfl | rfl | rfl
  · refine lv_tableIn (pc := 1) (off := 27) (tgt := 28) hx hb dX1_take_1 (by decide) (by decide) rfl (by decide) ?_
    refine lv_aload_n (pc := 28) hx hb dX1_take_28 rfl (lv_at hl 0 rfl) ?_
    refine lv_iload_n (pc := 29) hx hb dX1_take_29 rfl (lv_at hl 2 rfl) ?_
    refine lv_iload_n (pc := 30) hx hb dX1_take_30 rfl (lv_at hl 3 rfl) ?_
    have hPc := hP.sub (ws' := [(xm, .inr (1, [.ref al, .ref ak])), (al, .inl (cI, 16, .inl lv)), (ak, .inl (cI, 16, .inl ks))]) [0, 1, 2] rfl
    have hDc := hD.sub (ws' := [(xm, .inr (1, [.ref al, .ref ak])), (al, .inl (cI, 16, .inl lv)), (ak, .inl (cI, 16, .inl ks))]) [0, 1, 2] (by decide) rfl
    have hFc := va_free (wc := [(xm, .inr (1, [.ref al, .ref ak])), (al, .inl (cI, 16, .inl lv)), (ak, .inl (cI, 16, .inl ks))]) hD hS hA [0, 1, 2] rfl
    refine va_callv (pc := 31) (va_runV (As := [.int S, .int fi]) (rest := []) ⟨hx, hb, hml, hown, hts⟩ (m_X1_takeFirmly l G cI s.heap.size xm al ak lv ks S fi ) (cwV 2 hts gX1_take_X1_takeFirmly rfl rfl rfl (by decide +kernel) ⟨Nat.le_of_ble_eq_true rfl, Nat.le_of_ble_eq_true rfl⟩) (bv_pV hE ⟨rfl, hPc, hDc.weaken (fun _ _ _ _ => trivial)⟩ (va_recv hK hP (ci := 1) (q0 := 0) rfl rfl)) rfl rfl hl.1 rfl (lv_room (Nat.le_of_ble_eq_true rfl)) dX1_take_31 ⟨Nat.le_of_ble_eq_true rfl, Nat.le_of_ble_eq_true rfl⟩) hS (fun q _ h => hFc q h) hFc (fun u8 t8 H1 locs ht8 hvm8 e_2 hB8 hz1 hk1 hS => ?_)
    have hP1 : va_P G vwCl [(xm, .inr (1, [.ref al, .ref ak])), (al, .inl (cI, 16, .inl (bv_firm lv S fi))), (ak, .inl (cI, 16, .inl ks))] H1 := by rw [← ht8]; exact hB8
    obtain ⟨hP, hD⟩ := va_join (wr := []) (w1 := [(xm, .inr (1, [.ref al, .ref ak])), (al, .inl (cI, 16, .inl (bv_firm lv S fi))), (ak, .inl (cI, 16, .inl ks))]) hP hD [0, 1, 2] [] rfl rfl (by decide) (by decide) hk1 hFc hP1 (bv_Dm (w0 := [(xm, .inr (1, [.ref al, .ref ak])), (al, .inl (cI, 16, .inl lv)), (ak, .inl (cI, 16, .inl ks))]) [xm, al, ak] rfl rfl hDc.self)
    have hP : va_P G vwCl [(xm, .inr (1, [.ref al, .ref ak])), (al, .inl (cI, 16, .inl (bv_firm lv S fi))), (ak, .inl (cI, 16, .inl ks))] H1 := hP.sub (ws' := [(xm, .inr (1, [.ref al, .ref ak])), (al, .inl (cI, 16, .inl (bv_firm lv S fi))), (ak, .inl (cI, 16, .inl ks))]) [0, 1, 2] rfl
    have hD : va_D A [(xm, .inr (1, [.ref al, .ref ak])), (al, .inl (cI, 16, .inl (bv_firm lv S fi))), (ak, .inl (cI, 16, .inl ks))] := hD.sub (ws' := [(xm, .inr (1, [.ref al, .ref ak])), (al, .inl (cI, 16, .inl (bv_firm lv S fi))), (ak, .inl (cI, 16, .inl ks))]) [0, 1, 2] (by decide) rfl
    generalize H1 = H at hP hS ⊢
    refine lv_goto (pc := 34) (tgt := 65) hx hb dX1_take_34 (by decide) ?_
    have hP9 : va_P G vwCl [(xm, .inr (1, [.ref al, .ref ak])), (al, .inl (cI, 16, .inl (bv_learn lv ks 0 S fi))), (ak, .inl (cI, 16, .inl (bv_lkeys lv ks 0 S)))] H := by rw [bv_learn0, bv_lkeys0]; exact hP
    exact W.vret (pc := 65) hx hb hr (fun T8 hT8 hW8 => ⟨⟨(), rfl, trivial, bv_hP hT8 hP9⟩, hS.F hT8⟩) hS.2.2 dX1_take_65
  · refine lv_tableIn (pc := 1) (off := 36) (tgt := 37) hx hb dX1_take_1 (by decide) (by decide) rfl (by decide) ?_
    refine lv_aload_n (pc := 37) hx hb dX1_take_37 rfl (lv_at hl 0 rfl) ?_
    refine lv_iload_n (pc := 38) hx hb dX1_take_38 rfl (lv_at hl 2 rfl) ?_
    have hPc := hP.sub (ws' := [(xm, .inr (1, [.ref al, .ref ak])), (al, .inl (cI, 16, .inl lv)), (ak, .inl (cI, 16, .inl ks))]) [0, 1, 2] rfl
    have hDc := hD.sub (ws' := [(xm, .inr (1, [.ref al, .ref ak])), (al, .inl (cI, 16, .inl lv)), (ak, .inl (cI, 16, .inl ks))]) [0, 1, 2] (by decide) rfl
    have hFc := va_free (wc := [(xm, .inr (1, [.ref al, .ref ak])), (al, .inl (cI, 16, .inl lv)), (ak, .inl (cI, 16, .inl ks))]) hD hS hA [0, 1, 2] rfl
    refine va_callv (pc := 39) (va_runV (As := [.int S]) (rest := []) ⟨hx, hb, hml, hown, hts⟩ (m_X1_takeNaturally l G cI s.heap.size xm al ak lv ks S ) (cwV 1 hts gX1_take_X1_takeNaturally rfl rfl rfl (by decide +kernel) ⟨Nat.le_of_ble_eq_true rfl, Nat.le_of_ble_eq_true rfl⟩) (bv_pV hE ⟨rfl, hPc, hDc.weaken (fun _ _ _ _ => trivial)⟩ (va_recv hK hP (ci := 1) (q0 := 0) rfl rfl)) rfl rfl hl.1 rfl (lv_room (Nat.le_of_ble_eq_true rfl)) dX1_take_39 ⟨Nat.le_of_ble_eq_true rfl, Nat.le_of_ble_eq_true rfl⟩) hS (fun q _ h => hFc q h) hFc (fun u8 t8 H1 locs ht8 hvm8 e_4 hB8 hz1 hk1 hS => ?_)
    have hP1 : va_P G vwCl [(xm, .inr (1, [.ref al, .ref ak])), (al, .inl (cI, 16, .inl (bv_nat lv S))), (ak, .inl (cI, 16, .inl ks))] H1 := by rw [← ht8]; exact hB8
    obtain ⟨hP, hD⟩ := va_join (wr := []) (w1 := [(xm, .inr (1, [.ref al, .ref ak])), (al, .inl (cI, 16, .inl (bv_nat lv S))), (ak, .inl (cI, 16, .inl ks))]) hP hD [0, 1, 2] [] rfl rfl (by decide) (by decide) hk1 hFc hP1 (bv_Dm (w0 := [(xm, .inr (1, [.ref al, .ref ak])), (al, .inl (cI, 16, .inl lv)), (ak, .inl (cI, 16, .inl ks))]) [xm, al, ak] rfl rfl hDc.self)
    have hP : va_P G vwCl [(xm, .inr (1, [.ref al, .ref ak])), (al, .inl (cI, 16, .inl (bv_nat lv S))), (ak, .inl (cI, 16, .inl ks))] H1 := hP.sub (ws' := [(xm, .inr (1, [.ref al, .ref ak])), (al, .inl (cI, 16, .inl (bv_nat lv S))), (ak, .inl (cI, 16, .inl ks))]) [0, 1, 2] rfl
    have hD : va_D A [(xm, .inr (1, [.ref al, .ref ak])), (al, .inl (cI, 16, .inl (bv_nat lv S))), (ak, .inl (cI, 16, .inl ks))] := hD.sub (ws' := [(xm, .inr (1, [.ref al, .ref ak])), (al, .inl (cI, 16, .inl (bv_nat lv S))), (ak, .inl (cI, 16, .inl ks))]) [0, 1, 2] (by decide) rfl
    generalize H1 = H at hP hS ⊢
    refine lv_goto (pc := 42) (tgt := 65) hx hb dX1_take_42 (by decide) ?_
    have hP9 : va_P G vwCl [(xm, .inr (1, [.ref al, .ref ak])), (al, .inl (cI, 16, .inl (bv_learn lv ks 1 S fi))), (ak, .inl (cI, 16, .inl (bv_lkeys lv ks 1 S)))] H := by rw [bv_learn1, bv_lkeys1]; exact hP
    exact W.vret (pc := 65) hx hb hr (fun T8 hT8 hW8 => ⟨⟨(), rfl, trivial, bv_hP hT8 hP9⟩, hS.F hT8⟩) hS.2.2 dX1_take_65
  · refine lv_tableIn (pc := 1) (off := 44) (tgt := 45) hx hb dX1_take_1 (by decide) (by decide) rfl (by decide) ?_
    refine lv_aload_n (pc := 45) hx hb dX1_take_45 rfl (lv_at hl 0 rfl) ?_
    refine lv_iload_n (pc := 46) hx hb dX1_take_46 rfl (lv_at hl 2 rfl) ?_
    have hPc := hP.sub (ws' := [(xm, .inr (1, [.ref al, .ref ak])), (al, .inl (cI, 16, .inl lv)), (ak, .inl (cI, 16, .inl ks))]) [0, 1, 2] rfl
    have hDc := hD.sub (ws' := [(xm, .inr (1, [.ref al, .ref ak])), (al, .inl (cI, 16, .inl lv)), (ak, .inl (cI, 16, .inl ks))]) [0, 1, 2] (by decide) rfl
    have hFc := va_free (wc := [(xm, .inr (1, [.ref al, .ref ak])), (al, .inl (cI, 16, .inl lv)), (ak, .inl (cI, 16, .inl ks))]) hD hS hA [0, 1, 2] rfl
    refine va_callv (pc := 47) (va_runV (As := [.int S]) (rest := []) ⟨hx, hb, hml, hown, hts⟩ (m_X1_takeStrictly l G cI s.heap.size xm al ak lv ks S ) (cwV 1 hts gX1_take_X1_takeStrictly rfl rfl rfl (by decide +kernel) ⟨Nat.le_of_ble_eq_true rfl, Nat.le_of_ble_eq_true rfl⟩) (bv_pV hE ⟨rfl, hPc, hDc.weaken (fun _ _ _ _ => trivial)⟩ (va_recv hK hP (ci := 1) (q0 := 0) rfl rfl)) rfl rfl hl.1 rfl (lv_room (Nat.le_of_ble_eq_true rfl)) dX1_take_47 ⟨Nat.le_of_ble_eq_true rfl, Nat.le_of_ble_eq_true rfl⟩) hS (fun q _ h => hFc q h) hFc (fun u8 t8 H1 locs ht8 hvm8 e_6 hB8 hz1 hk1 hS => ?_)
    have hP1 : va_P G vwCl [(xm, .inr (1, [.ref al, .ref ak])), (al, .inl (cI, 16, .inl (bv_strict lv ks S))), (ak, .inl (cI, 16, .inl (bv_keys lv ks S)))] H1 := by rw [← ht8]; exact hB8
    obtain ⟨hP, hD⟩ := va_join (wr := []) (w1 := [(xm, .inr (1, [.ref al, .ref ak])), (al, .inl (cI, 16, .inl (bv_strict lv ks S))), (ak, .inl (cI, 16, .inl (bv_keys lv ks S)))]) hP hD [0, 1, 2] [] rfl rfl (by decide) (by decide) hk1 hFc hP1 (bv_Dm (w0 := [(xm, .inr (1, [.ref al, .ref ak])), (al, .inl (cI, 16, .inl lv)), (ak, .inl (cI, 16, .inl ks))]) [xm, al, ak] rfl rfl hDc.self)
    have hP : va_P G vwCl [(xm, .inr (1, [.ref al, .ref ak])), (al, .inl (cI, 16, .inl (bv_strict lv ks S))), (ak, .inl (cI, 16, .inl (bv_keys lv ks S)))] H1 := hP.sub (ws' := [(xm, .inr (1, [.ref al, .ref ak])), (al, .inl (cI, 16, .inl (bv_strict lv ks S))), (ak, .inl (cI, 16, .inl (bv_keys lv ks S)))]) [0, 1, 2] rfl
    have hD : va_D A [(xm, .inr (1, [.ref al, .ref ak])), (al, .inl (cI, 16, .inl (bv_strict lv ks S))), (ak, .inl (cI, 16, .inl (bv_keys lv ks S)))] := hD.sub (ws' := [(xm, .inr (1, [.ref al, .ref ak])), (al, .inl (cI, 16, .inl (bv_strict lv ks S))), (ak, .inl (cI, 16, .inl (bv_keys lv ks S)))]) [0, 1, 2] (by decide) rfl
    generalize H1 = H at hP hS ⊢
    refine lv_goto (pc := 50) (tgt := 65) hx hb dX1_take_50 (by decide) ?_
    have hP9 : va_P G vwCl [(xm, .inr (1, [.ref al, .ref ak])), (al, .inl (cI, 16, .inl (bv_learn lv ks 2 S fi))), (ak, .inl (cI, 16, .inl (bv_lkeys lv ks 2 S)))] H := by rw [bv_learn2, bv_lkeys2]; exact hP
    exact W.vret (pc := 65) hx hb hr (fun T8 hT8 hW8 => ⟨⟨(), rfl, trivial, bv_hP hT8 hP9⟩, hS.F hT8⟩) hS.2.2 dX1_take_65
  · refine lv_tableOut (pc := 1) (tgt := 53) hx hb dX1_take_1 (by decide) (by decide) ?_
    refine lv_aload_n (pc := 53) hx hb dX1_take_53 rfl (lv_at hl 0 rfl) ?_
    refine lv_aload_n (pc := 54) hx hb dX1_take_54 rfl (lv_at hl 0 rfl) ?_
    refine lv_iload_n (pc := 55) hx hb dX1_take_55 rfl (lv_at hl 2 rfl) ?_
    have hPc := hP.sub (ws' := []) [] rfl
    refine bv_cSi (pc := 56) (E' := (bv_not S)) (va_runSN (As := [.int S]) (rest := [.ref xm, .ref xm]) ⟨hx, hb, hml, hown, hts⟩ (m_X3_not l G cI S ) ⟨va_cnB 1 hts gX1_take_X3_not_n54 rfl rfl rfl hw2 hw1 (by decide +kernel) ⟨Nat.le_of_ble_eq_true rfl, Nat.le_of_ble_eq_true rfl⟩, hw0, trivial⟩ (bv_pS hE hPc) rfl rfl hl.1 rfl (lv_room (Nat.le_of_ble_eq_true rfl)) dX1_take_56 ⟨Nat.le_of_ble_eq_true rfl, Nat.le_of_ble_eq_true rfl⟩) rfl ?_
    have hPc := hP.sub (ws' := [(xm, .inr (1, [.ref al, .ref ak])), (al, .inl (cI, 16, .inl lv)), (ak, .inl (cI, 16, .inl ks))]) [0, 1, 2] rfl
    refine bv_cSi (pc := 59) (E' := (bv_mp lv (bv_not S))) (va_runV (As := [.int (bv_not S)]) (rest := [.ref xm]) ⟨hx, hb, hml, hown, hts⟩ (m_X1_mostPlausible l G cI xm al ak lv ks (bv_not S) ) (cwV 1 hts gX1_take_X1_mostPlausible rfl rfl rfl (by decide +kernel) ⟨Nat.le_of_ble_eq_true rfl, Nat.le_of_ble_eq_true rfl⟩) (bv_pV hE hPc (va_recv hK hP (ci := 1) (q0 := 0) rfl rfl)) rfl rfl hl.1 rfl (lv_room (Nat.le_of_ble_eq_true rfl)) dX1_take_59 ⟨Nat.le_of_ble_eq_true rfl, Nat.le_of_ble_eq_true rfl⟩) rfl ?_
    have hPc := hP.sub (ws' := [(xm, .inr (1, [.ref al, .ref ak])), (al, .inl (cI, 16, .inl lv)), (ak, .inl (cI, 16, .inl ks))]) [0, 1, 2] rfl
    have hDc := hD.sub (ws' := [(xm, .inr (1, [.ref al, .ref ak])), (al, .inl (cI, 16, .inl lv)), (ak, .inl (cI, 16, .inl ks))]) [0, 1, 2] (by decide) rfl
    have hFc := va_free (wc := [(xm, .inr (1, [.ref al, .ref ak])), (al, .inl (cI, 16, .inl lv)), (ak, .inl (cI, 16, .inl ks))]) hD hS hA [0, 1, 2] rfl
    refine va_callv (pc := 62) (va_runV (As := [.int (bv_mp lv (bv_not S))]) (rest := []) ⟨hx, hb, hml, hown, hts⟩ (m_X1_bringForward l G cI s.heap.size xm al ak lv ks (bv_mp lv (bv_not S)) ) (cwV 1 hts gX1_take_X1_bringForward rfl rfl rfl (by decide +kernel) ⟨Nat.le_of_ble_eq_true rfl, Nat.le_of_ble_eq_true rfl⟩) (bv_pV hE ⟨rfl, hPc, hDc.weaken (fun _ _ _ _ => trivial)⟩ (va_recv hK hP (ci := 1) (q0 := 0) rfl rfl)) rfl rfl hl.1 rfl (lv_room (Nat.le_of_ble_eq_true rfl)) dX1_take_62 ⟨Nat.le_of_ble_eq_true rfl, Nat.le_of_ble_eq_true rfl⟩) hS (fun q _ h => hFc q h) hFc (fun u8 t8 H1 locs ht8 hvm8 e_12 hB8 hz1 hk1 hS => ?_)
    have hP1 : va_P G vwCl [(xm, .inr (1, [.ref al, .ref ak])), (al, .inl (cI, 16, .inl (bv_bf lv (bv_mp lv (bv_not S)) 16))), (ak, .inl (cI, 16, .inl ks))] H1 := by rw [← ht8]; exact hB8
    obtain ⟨hP, hD⟩ := va_join (wr := []) (w1 := [(xm, .inr (1, [.ref al, .ref ak])), (al, .inl (cI, 16, .inl (bv_bf lv (bv_mp lv (bv_not S)) 16))), (ak, .inl (cI, 16, .inl ks))]) hP hD [0, 1, 2] [] rfl rfl (by decide) (by decide) hk1 hFc hP1 (bv_Dm (w0 := [(xm, .inr (1, [.ref al, .ref ak])), (al, .inl (cI, 16, .inl lv)), (ak, .inl (cI, 16, .inl ks))]) [xm, al, ak] rfl rfl hDc.self)
    have hP : va_P G vwCl [(xm, .inr (1, [.ref al, .ref ak])), (al, .inl (cI, 16, .inl (bv_bf lv (bv_mp lv (bv_not S)) 16))), (ak, .inl (cI, 16, .inl ks))] H1 := hP.sub (ws' := [(xm, .inr (1, [.ref al, .ref ak])), (al, .inl (cI, 16, .inl (bv_bf lv (bv_mp lv (bv_not S)) 16))), (ak, .inl (cI, 16, .inl ks))]) [0, 1, 2] rfl
    have hD : va_D A [(xm, .inr (1, [.ref al, .ref ak])), (al, .inl (cI, 16, .inl (bv_bf lv (bv_mp lv (bv_not S)) 16))), (ak, .inl (cI, 16, .inl ks))] := hD.sub (ws' := [(xm, .inr (1, [.ref al, .ref ak])), (al, .inl (cI, 16, .inl (bv_bf lv (bv_mp lv (bv_not S)) 16))), (ak, .inl (cI, 16, .inl ks))]) [0, 1, 2] (by decide) rfl
    generalize H1 = H at hP hS ⊢
    have hP9 : va_P G vwCl [(xm, .inr (1, [.ref al, .ref ak])), (al, .inl (cI, 16, .inl (bv_learn lv ks 3 S fi))), (ak, .inl (cI, 16, .inl (bv_lkeys lv ks 3 S)))] H := by rw [bv_learn3, bv_lkeys3, bv_doubt]; exact hP
    exact W.vret (pc := 65) hx hb hr (fun T8 hT8 hW8 => ⟨⟨(), rfl, trivial, bv_hP hT8 hP9⟩, hS.F hT8⟩) hS.2.2 dX1_take_65
