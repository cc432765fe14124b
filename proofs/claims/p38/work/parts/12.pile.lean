/-! The pile. -/
def bv_pdig (d : Int64) (p : Nat → Int32) : Nat → Int64
  | 0 => d
  | k + 1 => bv_dstep (bv_pdig d p k) (p k)
theorem bv_sub {a b : Nat} (h : b ≤ a) : nI a - nI b = nI (a - b) := pk_sub h
theorem bv_max0 {n : Nat} (h : n < 2 ^ 31) : bv_max 0 (nI n) = nI n := by
  unfold bv_max
  by_cases h0 : n = 0
  · subst h0; rfl
  · rw [if_pos (by have := nI_lt (show 0 < n by omega) h; exact this)]

set_option maxHeartbeats 4000000 in
set_option maxRecDepth 100000 in
theorem m_X2_count (l : Launch) (G : va_G) (cI : ClassId) (xp ap pn : Nat) (pf : Nat → Int32) : Met l yX2_count wsX2_count ({ frames := 0, cells := 0, slots := 0, locals := 0 }) (bv_P [.ref xp] G cI (fun H => va_P G vwCl [(xp, .inr (2, [.ref ap, .int (nI pn)])), (ap, .inl (cI, 12, .inl pf))] H)) (vp_Si (fun r9 : Int32 => r9 = (nI pn))) 0 0 (fun _ => False) := by
  refine Met.ofW (cc := cX2_count) (maxL := 1) (ret := (some .int)) (by decide) rfl ?_
  intro p e s m args below meth c s₁ B hml hv
  obtain ⟨rfl, hP, hE⟩ := hv
  have hx := B.exec
  have hb := B.bytes
  have hr := B.returns
  have hts := atoms_spec (ws := wsX2_count) B.pre
  have hown : s.vm.findClass RX2 = some m.cls := findClass_of_methodNamed B.named
  have hlocks := B.notSynchronized
  have hK := hE.1
  have hw0 := hts (.fieldLink RX2 15 "BeliefReviser$Pile" "count" "I") (List.mem_of_getElem? (i := 1) rfl)
  have hw1 : ∀ w ∈ u_ws RX2 TX2 2, w ∈ wsX2_count := by decide +kernel
  have hP : va_P G vwCl [(xp, .inr (2, [.ref ap, .int (nI pn)])), (ap, .inl (cI, 12, .inl pf))] s.heap := hP
  have hl := lv_entry ([.ref xp]) (n := 1) (Nat.le_of_ble_eq_true rfl)
  rw [lg_entry_eq]
  generalize (lg_sl ([.ref xp]) ++ List.replicate (1 - (lg_sl ([.ref xp])).length) Slot.unset).toArray = ls at hl ⊢
  have hl : lv_has ls 1 [(0, .ref xp)] := hl
  refine lv_aload_n (pc := 0) hx hb dX2_count_0 rfl (lv_at hl 0 rfl) ?_
  refine va_get (pc := 1) (D := G) (ci := 2) (v := .int (nI pn)) (C := RX2) (T := TX2) (N := 2) hx hb hts hw1 hown hK hP 0 rfl rfl 1 (by decide) hw0 (fun _ h9 => h9) rfl dX2_count_1 ?_
  exact W.iret (pc := 4) (v := (nI pn)) hx hb hr (fun T8 hT8 hW8 => ⟨(nI pn), rfl, rfl, hT8⟩) (fun _ h => nomatch h) dX2_count_4
set_option maxHeartbeats 4000000 in
set_option maxRecDepth 100000 in
theorem m_X2_isFull (l : Launch) (G : va_G) (cI : ClassId) (xp ap pn : Nat) (pf : Nat → Int32) (hp : pn ≤ 12) : Met l yX2_isFull wsX2_isFull ({ frames := 0, cells := 0, slots := 0, locals := 0 }) (bv_P [.ref xp] G cI (fun H => va_P G vwCl [(xp, .inr (2, [.ref ap, .int (nI pn)])), (ap, .inl (cI, 12, .inl pf))] H)) (vp_Si (fun r9 : Int32 => r9 = (bv_b (decide (12 ≤ pn))))) 0 0 (fun _ => False) := by
  refine Met.ofW (cc := cX2_isFull) (maxL := 1) (ret := (some .boolean)) (by decide) rfl ?_
  intro p e s m args below meth c s₁ B hml hv
  obtain ⟨rfl, hP, hE⟩ := hv
  have hx := B.exec
  have hb := B.bytes
  have hr := B.returns
  have hts := atoms_spec (ws := wsX2_isFull) B.pre
  have hown : s.vm.findClass RX2 = some m.cls := findClass_of_methodNamed B.named
  have hlocks := B.notSynchronized
  have hK := hE.1
  have hw0 := hts (.fieldLink RX2 15 "BeliefReviser$Pile" "count" "I") (List.mem_of_getElem? (i := 1) rfl)
  have hw1 : ∀ w ∈ u_ws RX2 TX2 2, w ∈ wsX2_isFull := by decide +kernel
  have hP : va_P G vwCl [(xp, .inr (2, [.ref ap, .int (nI pn)])), (ap, .inl (cI, 12, .inl pf))] s.heap := hP
  have hl := lv_entry ([.ref xp]) (n := 1) (Nat.le_of_ble_eq_true rfl)
  rw [lg_entry_eq]
  generalize (lg_sl ([.ref xp]) ++ List.replicate (1 - (lg_sl ([.ref xp])).length) Slot.unset).toArray = ls at hl ⊢
  have hl : lv_has ls 1 [(0, .ref xp)] := hl
  refine lv_aload_n (pc := 0) hx hb dX2_isFull_0 rfl (lv_at hl 0 rfl) ?_
  refine va_get (pc := 1) (D := G) (ci := 2) (v := .int (nI pn)) (C := RX2) (T := TX2) (N := 2) hx hb hts hw1 hown hK hP 0 rfl rfl 1 (by decide) hw0 (fun _ h9 => h9) rfl dX2_isFull_1 ?_
  refine lv_bipush (pc := 4) (v := 12) hx hb dX2_isFull_4 (by decide) ?_
  refine lv_icmp_lt (pc := 6) (tgt := 13) hx hb dX2_isFull_6 (by decide) (fun c6_1 => ?_) (fun c6_1 => ?_)
  · have c1 := c6_1
    refine lv_iconst (pc := 13) (v := 0) hx hb dX2_isFull_13 (by decide) ?_
    exact W.zret (pc := 14) (v := 0) hx hb hr rfl (fun T8 hT8 hW8 => ⟨0, rfl, (by rw [decide_eq_false (fun h => absurd (show nI pn < nI 12 from c1) (nI_nlt h (by omega)))]; rfl), hT8⟩) (fun _ h => nomatch h) dX2_isFull_14
  · have c1 := c6_1
    refine lv_iconst (pc := 9) (v := 1) hx hb dX2_isFull_9 (by decide) ?_
    refine lv_goto (pc := 10) (tgt := 14) hx hb dX2_isFull_10 (by decide) ?_
    exact W.zret (pc := 14) (v := 1) hx hb hr rfl (fun T8 hT8 hW8 => ⟨1, rfl, (by rw [decide_eq_true (by have : pn = 12 := by { by_cases h : pn < 12; exact absurd (show nI pn < nI 12 from nI_lt h (by omega)) c1; omega }; omega)]; rfl), hT8⟩) (fun _ h => nomatch h) dX2_isFull_14
set_option maxHeartbeats 4000000 in
set_option maxRecDepth 100000 in
theorem m_X2_lay (l : Launch) (G : va_G) (cI : ClassId) (sz : Nat) (xp ap pn : Nat) (pf : Nat → Int32) (v : Int32) (hp : pn < 12) : Met l yX2_lay wsX2_lay ({ frames := 1, cells := 0, slots := 0, locals := 22 }) (bv_P [.ref xp, .int v] G cI (fun H => H.size = sz ∧ va_P G vwCl [(xp, .inr (2, [.ref ap, .int (nI pn)])), (ap, .inl (cI, 12, .inl pf))] H ∧ va_D (fun _ => True) [(xp, .inr (2, [.ref ap, .int (nI pn)])), (ap, .inl (cI, 12, .inl pf))])) (va_Qv (fun _ : Unit => True) (fun (_ : Unit) (T9 : State) => va_P G vwCl [(xp, .inr (2, [.ref ap, .int (nI (pn + 1))])), (ap, .inl (cI, 12, .inl (upd pf pn v)))] T9.heap) (va_A [(xp, .inr (2, [.ref ap, .int (nI pn)])), (ap, .inl (cI, 12, .inl pf))] sz)) 0 0 (va_A [(xp, .inr (2, [.ref ap, .int (nI pn)])), (ap, .inl (cI, 12, .inl pf))] sz) := by
  refine Met.ofW (cc := cX2_lay) (maxL := 2) (ret := none) (by decide) rfl ?_
  intro p e s m args below meth c s₁ B hml hv
  obtain ⟨rfl, ⟨hsz, hP, hD0⟩, hE⟩ := hv
  have hx := B.exec
  have hb := B.bytes
  have hr := B.returns
  have hts := atoms_spec (ws := wsX2_lay) B.pre
  have hown : s.vm.findClass RX2 = some m.cls := findClass_of_methodNamed B.named
  have hlocks := B.notSynchronized
  have hK := hE.1
  have hw0 := hts (.fieldLink RX2 9 "BeliefReviser$Pile" "sentences" "[I") (List.mem_of_getElem? (i := 1) rfl)
  have hw1 : ∀ w ∈ u_ws RX2 TX2 2, w ∈ wsX2_lay := by decide +kernel
  have hw2 := hts (.fieldLink RX2 15 "BeliefReviser$Pile" "count" "I") (List.mem_of_getElem? (i := 2) rfl)
  have hw3 := hts (.static yX3_put) (List.mem_of_getElem? (i := 8) rfl)
  have hw4 := hts (.initialized RX3) (List.mem_of_getElem? (i := 9) rfl)
  have hw5 : va_Nw (.methodLinkNest RX2 23 yX3_put RX3) s := hE.2 (RX2, 23, yX3_put) (List.mem_of_getElem? (i := 9) rfl)
  subst hsz
  have hD := hD0.self (sz := s.heap.size)
  generalize hAe : va_A [(xp, .inr (2, [.ref ap, .int (nI pn)])), (ap, .inl (cI, 12, .inl pf))] s.heap.size = A at hD ⊢
  have hA : ∀ q : Nat, s.heap.size ≤ q → A q := fun q h => by rw [← hAe]; exact Or.inr h
  have hS : va_S A s.heap s.heap [] := va_S.rf
  have hP : va_P G vwCl [(xp, .inr (2, [.ref ap, .int (nI pn)])), (ap, .inl (cI, 12, .inl pf))] s.heap := hP
  have hl := lv_entry ([.ref xp, .int v]) (n := 2) (Nat.le_of_ble_eq_true rfl)
  rw [lg_entry_eq]
  generalize (lg_sl ([.ref xp, .int v]) ++ List.replicate (2 - (lg_sl ([.ref xp, .int v])).length) Slot.unset).toArray = ls at hl ⊢
  have hl : lv_has ls 2 [(0, .ref xp), (1, .int v)] := hl
  refine lv_aload_n (pc := 0) hx hb dX2_lay_0 rfl (lv_at hl 0 rfl) ?_
  have hPc := hP.sub (ws' := [(xp, .inr (2, [.ref ap, .int (nI pn)])), (ap, .inl (cI, 12, .inl pf))]) [0, 1] rfl
  refine bv_cSi (pc := 1) (E' := 0) (va_runV (As := []) (rest := []) ⟨hx, hb, hml, hown, hts⟩ (m_X2_isFull l G cI xp ap pn pf (by omega)) (cwV 0 hts gX2_lay_X2_isFull rfl rfl rfl (by decide +kernel) ⟨Nat.le_of_ble_eq_true rfl, Nat.le_of_ble_eq_true rfl⟩) (bv_pV hE hPc (va_recv hK hP (ci := 2) (q0 := 0) rfl rfl)) rfl rfl hl.1 rfl (lv_room (Nat.le_of_ble_eq_true rfl)) dX2_lay_1 ⟨Nat.le_of_ble_eq_true rfl, Nat.le_of_ble_eq_true rfl⟩) (by rw [decide_eq_false (by omega)]; rfl) ?_
  refine lv_if_ne (pc := 4) (tgt := 29) hx hb dX2_lay_4 (by decide) (fun c4_3 => ?_) (fun c4_3 => ?_)
  · exact absurd rfl c4_3
  · refine lv_aload_n (pc := 7) hx hb dX2_lay_7 rfl (lv_at hl 0 rfl) ?_
    refine va_get (pc := 8) (D := G) (ci := 2) (v := .ref ap) (C := RX2) (T := TX2) (N := 2) hx hb hts hw1 hown hK hP 0 rfl rfl 0 (by decide) hw0 (fun _ h9 => h9) rfl dX2_lay_8 ?_
    refine lv_aload_n (pc := 11) hx hb dX2_lay_11 rfl (lv_at hl 0 rfl) ?_
    refine va_get (pc := 12) (D := G) (ci := 2) (v := .int (nI pn)) (C := RX2) (T := TX2) (N := 2) hx hb hts hw1 hown hK hP 0 rfl rfl 1 (by decide) hw2 (fun _ h9 => h9) rfl dX2_lay_12 ?_
    refine lv_iload_n (pc := 15) hx hb dX2_lay_15 rfl (lv_at hl 1 rfl) ?_
    have hPc := hP.sub (ws' := [(ap, .inl (cI, 12, .inl pf))]) [1] rfl
    have hDc := hD.sub (ws' := [(ap, .inl (cI, 12, .inl pf))]) [1] (by decide) rfl
    have hFc := va_free (wc := [(ap, .inl (cI, 12, .inl pf))]) hD hS hA [1] rfl
    refine va_callv (pc := 16) (va_runSN (As := [.ref ap, .int (nI pn), .int v]) (rest := []) ⟨hx, hb, hml, hown, hts⟩ (m_X3_put l G cI s.heap.size ap 12 pf (nI pn) v (by decide)) ⟨va_cnB 3 hts gX2_lay_X3_put_n23 rfl rfl rfl hw5 hw4 (by decide +kernel) ⟨Nat.le_of_ble_eq_true rfl, Nat.le_of_ble_eq_true rfl⟩, hw3, trivial⟩ (bv_pS hE ⟨rfl, hPc, hDc.weaken (fun _ _ _ _ => trivial)⟩) rfl rfl hl.1 rfl (lv_room (Nat.le_of_ble_eq_true rfl)) dX2_lay_16 ⟨Nat.le_of_ble_eq_true rfl, Nat.le_of_ble_eq_true rfl⟩) hS (fun q _ h => hFc q h) hFc (fun u8 t8 H1 locs ht8 hvm8 e_5 hB8 hz1 hk1 hS => ?_)
    have hP1 : va_P G vwCl [(ap, .inl (cI, 12, .inl (bv_put 12 pf (nI pn) v)))] H1 := by rw [← ht8]; exact hB8
    obtain ⟨hP, hD⟩ := va_join (wr := [(xp, .inr (2, [.ref ap, .int (nI pn)]))]) (w1 := [(ap, .inl (cI, 12, .inl (bv_put 12 pf (nI pn) v)))]) hP hD [1] [0] rfl rfl (by decide) (by decide) hk1 hFc hP1 (bv_Dm (w0 := [(ap, .inl (cI, 12, .inl pf))]) [ap] rfl rfl hDc.self)
    have hP : va_P G vwCl [(xp, .inr (2, [.ref ap, .int (nI pn)])), (ap, .inl (cI, 12, .inl (bv_put 12 pf (nI pn) v)))] H1 := hP.sub (ws' := [(xp, .inr (2, [.ref ap, .int (nI pn)])), (ap, .inl (cI, 12, .inl (bv_put 12 pf (nI pn) v)))]) [0, 1] rfl
    have hD : va_D A [(xp, .inr (2, [.ref ap, .int (nI pn)])), (ap, .inl (cI, 12, .inl (bv_put 12 pf (nI pn) v)))] := hD.sub (ws' := [(xp, .inr (2, [.ref ap, .int (nI pn)])), (ap, .inl (cI, 12, .inl (bv_put 12 pf (nI pn) v)))]) [0, 1] (by decide) rfl
    generalize H1 = H at hP hS ⊢
    rw [show (bv_put 12 pf (nI pn) v) = (upd pf pn v) from bv_put_nI hp (by decide)] at hP hD
    refine lv_aload_n (pc := 19) hx hb dX2_lay_19 rfl (lv_at hl 0 rfl) ?_
    refine lv_dup (pc := 20) hx hb dX2_lay_20 rfl ?_
    refine va_get (pc := 21) (D := G) (ci := 2) (v := .int (nI pn)) (C := RX2) (T := TX2) (N := 2) hx hb hts hw1 hown hK hP 0 rfl rfl 1 (by decide) hw2 (fun _ h9 => h9) rfl dX2_lay_21 ?_
    refine lv_iconst (pc := 24) (v := 1) hx hb dX2_lay_24 (by decide) ?_
    refine lv_iadd (pc := 25) hx hb dX2_lay_25 ?_
    rw [show ((nI pn) + 1) = (nI (pn + 1)) from (nI_1 pn)]
    refine va_put (pc := 26) (D := G) (ci := 2) (v := .int (nI (pn + 1))) (ty := .int) (C := RX2) (T := TX2) (N := 2) hx hb hts hw1 tyX2 tyX2_ok nmX2 hown hK hP hD hS 0 rfl rfl 1 (by decide) hw2 (fun _ h9 => h9) rfl (by decide +kernel) rfl rfl (Nat.le_of_ble_eq_true rfl) dX2_lay_26 (fun H locs hP hD hS => ?_)
    have hP : va_P G vwCl [(xp, .inr (2, [.ref ap, .int (nI (pn + 1))])), (ap, .inl (cI, 12, .inl (upd pf pn v)))] H := hP
    have hD : va_D A [(xp, .inr (2, [.ref ap, .int (nI (pn + 1))])), (ap, .inl (cI, 12, .inl (upd pf pn v)))] := hD
    have hP9 : va_P G vwCl [(xp, .inr (2, [.ref ap, .int (nI (pn + 1))])), (ap, .inl (cI, 12, .inl (upd pf pn v)))] H := hP
    exact W.vret (pc := 29) hx hb hr (fun T8 hT8 hW8 => ⟨⟨(), rfl, trivial, bv_hP hT8 hP9⟩, hS.F hT8⟩) hS.2.2 dX2_lay_29
set_option maxHeartbeats 4000000 in
set_option maxRecDepth 100000 in
theorem m_X2_take (l : Launch) (G : va_G) (cI : ClassId) (sz : Nat) (xp ap pn : Nat) (pf : Nat → Int32) (j : Nat) (hj : j ≤ pn) (hp : pn ≤ 12) : Met l yX2_take wsX2_take ({ frames := 1, cells := 0, slots := 0, locals := 21 }) (bv_P [.ref xp, .int (nI j)] G cI (fun H => H.size = sz ∧ va_P G vwCl [(xp, .inr (2, [.ref ap, .int (nI pn)])), (ap, .inl (cI, 12, .inl pf))] H ∧ va_D (fun _ => True) [(xp, .inr (2, [.ref ap, .int (nI pn)])), (ap, .inl (cI, 12, .inl pf))])) (va_Qv (fun _ : Unit => True) (fun (_ : Unit) (T9 : State) => va_P G vwCl [(xp, .inr (2, [.ref ap, .int (nI (pn - j))])), (ap, .inl (cI, 12, .inl pf))] T9.heap) (va_A [(xp, .inr (2, [.ref ap, .int (nI pn)])), (ap, .inl (cI, 12, .inl pf))] sz)) 0 0 (va_A [(xp, .inr (2, [.ref ap, .int (nI pn)])), (ap, .inl (cI, 12, .inl pf))] sz) := by
  refine Met.ofW (cc := cX2_take) (maxL := 2) (ret := none) (by decide) rfl ?_
  intro p e s m args below meth c s₁ B hml hv
  obtain ⟨rfl, ⟨hsz, hP, hD0⟩, hE⟩ := hv
  have hx := B.exec
  have hb := B.bytes
  have hr := B.returns
  have hts := atoms_spec (ws := wsX2_take) B.pre
  have hown : s.vm.findClass RX2 = some m.cls := findClass_of_methodNamed B.named
  have hlocks := B.notSynchronized
  have hK := hE.1
  have hw0 := hts (.fieldLink RX2 15 "BeliefReviser$Pile" "count" "I") (List.mem_of_getElem? (i := 1) rfl)
  have hw1 : ∀ w ∈ u_ws RX2 TX2 2, w ∈ wsX2_take := by decide +kernel
  have hw2 := hts (.methodLink RX2 27 Lib.Math.max.name) (List.mem_of_getElem? (i := 2) rfl)
  have hw3 := hts (.static Lib.Math.max.name) (List.mem_of_getElem? (i := 3) rfl)
  have hw4 := hts (.initialized "java/lang/Math") (List.mem_of_getElem? (i := 4) rfl)
  have hw5 := hts (.code Lib.Math.max.name Lib.Math.max.code 2 (some .int)) (List.mem_of_getElem? (i := 5) rfl)
  subst hsz
  have hD := hD0.self (sz := s.heap.size)
  generalize hAe : va_A [(xp, .inr (2, [.ref ap, .int (nI pn)])), (ap, .inl (cI, 12, .inl pf))] s.heap.size = A at hD ⊢
  have hA : ∀ q : Nat, s.heap.size ≤ q → A q := fun q h => by rw [← hAe]; exact Or.inr h
  have hS : va_S A s.heap s.heap [] := va_S.rf
  have hP : va_P G vwCl [(xp, .inr (2, [.ref ap, .int (nI pn)])), (ap, .inl (cI, 12, .inl pf))] s.heap := hP
  have hl := lv_entry ([.ref xp, .int (nI j)]) (n := 2) (Nat.le_of_ble_eq_true rfl)
  rw [lg_entry_eq]
  generalize (lg_sl ([.ref xp, .int (nI j)]) ++ List.replicate (2 - (lg_sl ([.ref xp, .int (nI j)])).length) Slot.unset).toArray = ls at hl ⊢
  have hl : lv_has ls 2 [(0, .ref xp), (1, .int (nI j))] := hl
  refine lv_aload_n (pc := 0) hx hb dX2_take_0 rfl (lv_at hl 0 rfl) ?_
  refine lv_iconst (pc := 1) (v := 0) hx hb dX2_take_1 (by decide) ?_
  refine lv_aload_n (pc := 2) hx hb dX2_take_2 rfl (lv_at hl 0 rfl) ?_
  refine va_get (pc := 3) (D := G) (ci := 2) (v := .int (nI pn)) (C := RX2) (T := TX2) (N := 2) hx hb hts hw1 hown hK hP 0 rfl rfl 1 (by decide) hw0 (fun _ h9 => h9) rfl dX2_take_3 ?_
  refine lv_iload_n (pc := 6) hx hb dX2_take_6 rfl (lv_at hl 1 rfl) ?_
  refine lv_isub (pc := 7) hx hb dX2_take_7 ?_
  refine va_mmax (pc := 8) hx hb (hml.trans hl.1.symm) hown hw2 hw3 hw4 hw5 (Nat.le_of_ble_eq_true rfl) (Nat.le_of_ble_eq_true rfl) (Nat.le_of_ble_eq_true rfl) (Nat.le_of_ble_eq_true rfl) dX2_take_8 ?_
  rw [show (if 0 < ((nI pn) - (nI j)) then ((nI pn) - (nI j)) else 0) = (bv_max 0 ((nI pn) - (nI j))) from rfl]
  rw [show (bv_max 0 ((nI pn) - (nI j))) = (nI (pn - j)) from by rw [bv_sub hj, bv_max0 (by omega)]]
  refine va_put (pc := 11) (D := G) (ci := 2) (v := .int (nI (pn - j))) (ty := .int) (C := RX2) (T := TX2) (N := 2) hx hb hts hw1 tyX2 tyX2_ok nmX2 hown hK hP hD hS 0 rfl rfl 1 (by decide) hw0 (fun _ h9 => h9) rfl (by decide +kernel) rfl rfl (Nat.le_of_ble_eq_true rfl) dX2_take_11 (fun H locs hP hD hS => ?_)
  have hP : va_P G vwCl [(xp, .inr (2, [.ref ap, .int (nI (pn - j))])), (ap, .inl (cI, 12, .inl pf))] H := hP
  have hD : va_D A [(xp, .inr (2, [.ref ap, .int (nI (pn - j))])), (ap, .inl (cI, 12, .inl pf))] := hD
  have hP9 : va_P G vwCl [(xp, .inr (2, [.ref ap, .int (nI (pn - j))])), (ap, .inl (cI, 12, .inl pf))] H := hP
  exact W.vret (pc := 14) hx hb hr (fun T8 hT8 hW8 => ⟨⟨(), rfl, trivial, bv_hP hT8 hP9⟩, hS.F hT8⟩) hS.2.2 dX2_take_14
set_option maxHeartbeats 4000000 in
set_option maxRecDepth 100000 in
theorem m_X2_replace (l : Launch) (G : va_G) (cI : ClassId) (sz : Nat) (xp ap pn : Nat) (pf : Nat → Int32) (j : Nat) (v : Int32) (h1 : 1 ≤ j) (hj : j ≤ pn) (hp : pn ≤ 12) : Met l yX2_replace wsX2_replace ({ frames := 2, cells := 0, slots := 0, locals := 43 }) (bv_P [.ref xp, .int (nI j), .int v] G cI (fun H => H.size = sz ∧ va_P G vwCl [(xp, .inr (2, [.ref ap, .int (nI pn)])), (ap, .inl (cI, 12, .inl pf))] H ∧ va_D (fun _ => True) [(xp, .inr (2, [.ref ap, .int (nI pn)])), (ap, .inl (cI, 12, .inl pf))])) (va_Qv (fun _ : Unit => True) (fun (_ : Unit) (T9 : State) => va_P G vwCl [(xp, .inr (2, [.ref ap, .int (nI (pn - j + 1))])), (ap, .inl (cI, 12, .inl (upd pf (pn - j) v)))] T9.heap) (va_A [(xp, .inr (2, [.ref ap, .int (nI pn)])), (ap, .inl (cI, 12, .inl pf))] sz)) 0 0 (va_A [(xp, .inr (2, [.ref ap, .int (nI pn)])), (ap, .inl (cI, 12, .inl pf))] sz) := by
  refine Met.ofW (cc := cX2_replace) (maxL := 3) (ret := none) (by decide) rfl ?_
  intro p e s m args below meth c s₁ B hml hv
  obtain ⟨rfl, ⟨hsz, hP, hD0⟩, hE⟩ := hv
  have hx := B.exec
  have hb := B.bytes
  have hr := B.returns
  have hts := atoms_spec (ws := wsX2_replace) B.pre
  have hown : s.vm.findClass RX2 = some m.cls := findClass_of_methodNamed B.named
  have hlocks := B.notSynchronized
  have hK := hE.1
  subst hsz
  have hD := hD0.self (sz := s.heap.size)
  generalize hAe : va_A [(xp, .inr (2, [.ref ap, .int (nI pn)])), (ap, .inl (cI, 12, .inl pf))] s.heap.size = A at hD ⊢
  have hA : ∀ q : Nat, s.heap.size ≤ q → A q := fun q h => by rw [← hAe]; exact Or.inr h
  have hS : va_S A s.heap s.heap [] := va_S.rf
  have hP : va_P G vwCl [(xp, .inr (2, [.ref ap, .int (nI pn)])), (ap, .inl (cI, 12, .inl pf))] s.heap := hP
  have hl := lv_entry ([.ref xp, .int (nI j), .int v]) (n := 3) (Nat.le_of_ble_eq_true rfl)
  rw [lg_entry_eq]
  generalize (lg_sl ([.ref xp, .int (nI j), .int v]) ++ List.replicate (3 - (lg_sl ([.ref xp, .int (nI j), .int v])).length) Slot.unset).toArray = ls at hl ⊢
  have hl : lv_has ls 3 [(0, .ref xp), (1, .int (nI j)), (2, .int v)] := hl
  refine lv_aload_n (pc := 0) hx hb dX2_replace_0 rfl (lv_at hl 0 rfl) ?_
  refine lv_iload_n (pc := 1) hx hb dX2_replace_1 rfl (lv_at hl 1 rfl) ?_
  have hPc := hP.sub (ws' := [(xp, .inr (2, [.ref ap, .int (nI pn)])), (ap, .inl (cI, 12, .inl pf))]) [0, 1] rfl
  have hDc := hD.sub (ws' := [(xp, .inr (2, [.ref ap, .int (nI pn)])), (ap, .inl (cI, 12, .inl pf))]) [0, 1] (by decide) rfl
  have hFc := va_free (wc := [(xp, .inr (2, [.ref ap, .int (nI pn)])), (ap, .inl (cI, 12, .inl pf))]) hD hS hA [0, 1] rfl
  refine va_callv (pc := 2) (va_runV (As := [.int (nI j)]) (rest := []) ⟨hx, hb, hml, hown, hts⟩ (m_X2_take l G cI s.heap.size xp ap pn pf j (by first | assumption | omega) (by first | assumption | omega)) (cwV 1 hts gX2_replace_X2_take rfl rfl rfl (by decide +kernel) ⟨Nat.le_of_ble_eq_true rfl, Nat.le_of_ble_eq_true rfl⟩) (bv_pV hE ⟨rfl, hPc, hDc.weaken (fun _ _ _ _ => trivial)⟩ (va_recv hK hP (ci := 2) (q0 := 0) rfl rfl)) rfl rfl hl.1 rfl (lv_room (Nat.le_of_ble_eq_true rfl)) dX2_replace_2 ⟨Nat.le_of_ble_eq_true rfl, Nat.le_of_ble_eq_true rfl⟩) hS (fun q _ h => hFc q h) hFc (fun u8 t8 H1 locs ht8 hvm8 e_2 hB8 hz1 hk1 hS => ?_)
  have hP1 : va_P G vwCl [(xp, .inr (2, [.ref ap, .int (nI (pn - j))])), (ap, .inl (cI, 12, .inl pf))] H1 := by rw [← ht8]; exact hB8
  obtain ⟨hP, hD⟩ := va_join (wr := []) (w1 := [(xp, .inr (2, [.ref ap, .int (nI (pn - j))])), (ap, .inl (cI, 12, .inl pf))]) hP hD [0, 1] [] rfl rfl (by decide) (by decide) hk1 hFc hP1 (bv_Dm (w0 := [(xp, .inr (2, [.ref ap, .int (nI pn)])), (ap, .inl (cI, 12, .inl pf))]) [xp, ap] rfl rfl hDc.self)
  have hP : va_P G vwCl [(xp, .inr (2, [.ref ap, .int (nI (pn - j))])), (ap, .inl (cI, 12, .inl pf))] H1 := hP.sub (ws' := [(xp, .inr (2, [.ref ap, .int (nI (pn - j))])), (ap, .inl (cI, 12, .inl pf))]) [0, 1] rfl
  have hD : va_D A [(xp, .inr (2, [.ref ap, .int (nI (pn - j))])), (ap, .inl (cI, 12, .inl pf))] := hD.sub (ws' := [(xp, .inr (2, [.ref ap, .int (nI (pn - j))])), (ap, .inl (cI, 12, .inl pf))]) [0, 1] (by decide) rfl
  generalize H1 = H at hP hS ⊢
  refine lv_aload_n (pc := 5) hx hb dX2_replace_5 rfl (lv_at hl 0 rfl) ?_
  refine lv_iload_n (pc := 6) hx hb dX2_replace_6 rfl (lv_at hl 2 rfl) ?_
  have hPc := hP.sub (ws' := [(xp, .inr (2, [.ref ap, .int (nI (pn - j))])), (ap, .inl (cI, 12, .inl pf))]) [0, 1] rfl
  have hDc := hD.sub (ws' := [(xp, .inr (2, [.ref ap, .int (nI (pn - j))])), (ap, .inl (cI, 12, .inl pf))]) [0, 1] (by decide) rfl
  have hFc := va_free (wc := [(xp, .inr (2, [.ref ap, .int (nI (pn - j))])), (ap, .inl (cI, 12, .inl pf))]) hD hS hA [0, 1] rfl
  refine va_callv (pc := 7) (va_runV (As := [.int v]) (rest := []) ⟨hx, hb, hml, hown, hts⟩ (m_X2_lay l G cI H.size xp ap (pn - j) pf v (by first | assumption | omega)) (cwV 1 hts gX2_replace_X2_lay rfl rfl rfl (by decide +kernel) ⟨Nat.le_of_ble_eq_true rfl, Nat.le_of_ble_eq_true rfl⟩) (bv_pV hE ⟨rfl, hPc, hDc.weaken (fun _ _ _ _ => trivial)⟩ (va_recv hK hP (ci := 2) (q0 := 0) rfl rfl)) rfl rfl hl.1 rfl (lv_room (Nat.le_of_ble_eq_true rfl)) dX2_replace_7 ⟨Nat.le_of_ble_eq_true rfl, Nat.le_of_ble_eq_true rfl⟩) hS (fun q _ h => hFc q h) hFc (fun u8 t8 H1 locs ht8 hvm8 e_4 hB8 hz1 hk1 hS => ?_)
  have hP1 : va_P G vwCl [(xp, .inr (2, [.ref ap, .int (nI ((pn - j) + 1))])), (ap, .inl (cI, 12, .inl (upd pf (pn - j) v)))] H1 := by rw [← ht8]; exact hB8
  obtain ⟨hP, hD⟩ := va_join (wr := []) (w1 := [(xp, .inr (2, [.ref ap, .int (nI ((pn - j) + 1))])), (ap, .inl (cI, 12, .inl (upd pf (pn - j) v)))]) hP hD [0, 1] [] rfl rfl (by decide) (by decide) hk1 hFc hP1 (bv_Dm (w0 := [(xp, .inr (2, [.ref ap, .int (nI (pn - j))])), (ap, .inl (cI, 12, .inl pf))]) [xp, ap] rfl rfl hDc.self)
  have hP : va_P G vwCl [(xp, .inr (2, [.ref ap, .int (nI ((pn - j) + 1))])), (ap, .inl (cI, 12, .inl (upd pf (pn - j) v)))] H1 := hP.sub (ws' := [(xp, .inr (2, [.ref ap, .int (nI ((pn - j) + 1))])), (ap, .inl (cI, 12, .inl (upd pf (pn - j) v)))]) [0, 1] rfl
  have hD : va_D A [(xp, .inr (2, [.ref ap, .int (nI ((pn - j) + 1))])), (ap, .inl (cI, 12, .inl (upd pf (pn - j) v)))] := hD.sub (ws' := [(xp, .inr (2, [.ref ap, .int (nI ((pn - j) + 1))])), (ap, .inl (cI, 12, .inl (upd pf (pn - j) v)))]) [0, 1] (by decide) rfl
  generalize H1 = H at hP hS ⊢
  have hP9 : va_P G vwCl [(xp, .inr (2, [.ref ap, .int (nI (pn - j + 1))])), (ap, .inl (cI, 12, .inl (upd pf (pn - j) v)))] H := hP
  exact W.vret (pc := 10) hx hb hr (fun T8 hT8 hW8 => ⟨⟨(), rfl, trivial, bv_hP hT8 hP9⟩, hS.F hT8⟩) hS.2.2 dX2_replace_10
set_option maxHeartbeats 4000000 in
set_option maxRecDepth 100000 in
theorem m_X2_below (l : Launch) (G : va_G) (cI : ClassId) (xp ap pn : Nat) (pf : Nat → Int32) (j : Nat) (hj : j < pn) (hp : pn ≤ 12) : Met l yX2_below wsX2_below ({ frames := 1, cells := 0, slots := 0, locals := 21 }) (bv_P [.ref xp, .int (nI j)] G cI (fun H => va_P G vwCl [(xp, .inr (2, [.ref ap, .int (nI pn)])), (ap, .inl (cI, 12, .inl pf))] H)) (vp_Si (fun r9 : Int32 => r9 = (pf (pn - 1 - j)))) 0 0 (fun _ => False) := by
  refine Met.ofW (cc := cX2_below) (maxL := 2) (ret := (some .int)) (by decide) rfl ?_
  intro p e s m args below meth c s₁ B hml hv
  obtain ⟨rfl, hP, hE⟩ := hv
  have hx := B.exec
  have hb := B.bytes
  have hr := B.returns
  have hts := atoms_spec (ws := wsX2_below) B.pre
  have hown : s.vm.findClass RX2 = some m.cls := findClass_of_methodNamed B.named
  have hlocks := B.notSynchronized
  have hK := hE.1
  have hw0 := hts (.fieldLink RX2 9 "BeliefReviser$Pile" "sentences" "[I") (List.mem_of_getElem? (i := 1) rfl)
  have hw1 : ∀ w ∈ u_ws RX2 TX2 2, w ∈ wsX2_below := by decide +kernel
  have hw2 := hts (.fieldLink RX2 15 "BeliefReviser$Pile" "count" "I") (List.mem_of_getElem? (i := 2) rfl)
  have hw3 := hts (.static yX3_at) (List.mem_of_getElem? (i := 3) rfl)
  have hw4 := hts (.initialized RX3) (List.mem_of_getElem? (i := 4) rfl)
  have hw5 : va_Nw (.methodLinkNest RX2 40 yX3_at RX3) s := hE.2 (RX2, 40, yX3_at) (List.mem_of_getElem? (i := 10) rfl)
  have hP : va_P G vwCl [(xp, .inr (2, [.ref ap, .int (nI pn)])), (ap, .inl (cI, 12, .inl pf))] s.heap := hP
  have hl := lv_entry ([.ref xp, .int (nI j)]) (n := 2) (Nat.le_of_ble_eq_true rfl)
  rw [lg_entry_eq]
  generalize (lg_sl ([.ref xp, .int (nI j)]) ++ List.replicate (2 - (lg_sl ([.ref xp, .int (nI j)])).length) Slot.unset).toArray = ls at hl ⊢
  have hl : lv_has ls 2 [(0, .ref xp), (1, .int (nI j))] := hl
  refine lv_aload_n (pc := 0) hx hb dX2_below_0 rfl (lv_at hl 0 rfl) ?_
  refine va_get (pc := 1) (D := G) (ci := 2) (v := .ref ap) (C := RX2) (T := TX2) (N := 2) hx hb hts hw1 hown hK hP 0 rfl rfl 0 (by decide) hw0 (fun _ h9 => h9) rfl dX2_below_1 ?_
  refine lv_aload_n (pc := 4) hx hb dX2_below_4 rfl (lv_at hl 0 rfl) ?_
  refine va_get (pc := 5) (D := G) (ci := 2) (v := .int (nI pn)) (C := RX2) (T := TX2) (N := 2) hx hb hts hw1 hown hK hP 0 rfl rfl 1 (by decide) hw2 (fun _ h9 => h9) rfl dX2_below_5 ?_
  refine lv_iconst (pc := 8) (v := 1) hx hb dX2_below_8 (by decide) ?_
  refine lv_isub (pc := 9) hx hb dX2_below_9 ?_
  refine lv_iload_n (pc := 10) hx hb dX2_below_10 rfl (lv_at hl 1 rfl) ?_
  refine lv_isub (pc := 11) hx hb dX2_below_11 ?_
  have hPc := hP.sub (ws' := [(ap, .inl (cI, 12, .inl pf))]) [1] rfl
  refine bv_cSi (pc := 12) (E' := (pf (pn - 1 - j))) (va_runSN (As := [.ref ap, .int (((nI pn) - 1) - (nI j))]) (rest := []) ⟨hx, hb, hml, hown, hts⟩ (m_X3_at l G cI ap 12 pf (((nI pn) - 1) - (nI j)) (by decide)) ⟨va_cnB 2 hts gX2_below_X3_at_n40 rfl rfl rfl hw5 hw4 (by decide +kernel) ⟨Nat.le_of_ble_eq_true rfl, Nat.le_of_ble_eq_true rfl⟩, hw3, trivial⟩ (bv_pS hE hPc) rfl rfl hl.1 rfl (lv_room (Nat.le_of_ble_eq_true rfl)) dX2_below_12 ⟨Nat.le_of_ble_eq_true rfl, Nat.le_of_ble_eq_true rfl⟩) (by rw [show (1 : Int32) = nI 1 from rfl, bv_sub (by omega), bv_sub (by omega), bv_at_nI (by omega) (by decide)]) ?_
  exact W.iret (pc := 15) (v := (pf (pn - 1 - j))) hx hb hr (fun T8 hT8 hW8 => ⟨(pf (pn - 1 - j)), rfl, rfl, hT8⟩) (fun _ h => nomatch h) dX2_below_15
