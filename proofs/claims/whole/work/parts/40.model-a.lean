/-! The reference's own words. -/
def bv_if {α : Type} (cd : Nat) (a b : α) : α := match cd with
  | 0 => a
  | _ + 1 => b
theorem bv_le_m1 {i : Int32} {n : Nat} (hn : n < 2 ^ 30) : i ≤ nI n - 1 ↔ i < nI n := by
  rw [Int32.le_iff_toInt_le, Int32.lt_iff_toInt_lt, show (1 : Int32) = nI 1 from rfl, pk_sub_toInt hn (by decide), nI_toInt (by omega)]
  omega
theorem bv_pn0 {n : Nat} (hn : n < 2 ^ 31) : nI n = 0 ↔ n = 0 := nI_eq (b := 0) hn (by decide)
def bv_wof (i : Int32) : Nat → Int32
  | 0 => 0
  | w + 1 => if bv_has (nI w) i then bv_wof i w ||| ((1 : Int32) <<< (nI w &&& 31)) else bv_wof i w
theorem bv_wof_ok {i : Int32} (h : 0 ≤ i ∧ i ≤ 3) : bv_wof i 16 = bv_at 4 bv_AW i := by
  rcases bv_joined_cases h with rfl | rfl | rfl | rfl <;> decide
theorem bv_dec_b {P : Prop} [Decidable P] (h : P) : (1 : Int32) = bv_b (decide P) := by rw [decide_eq_true h]; rfl
theorem bv_dec_nb {P : Prop} [Decidable P] (h : ¬ P) : (0 : Int32) = bv_b (decide P) := by rw [decide_eq_false h]; rfl

set_option maxHeartbeats 4000000 in
set_option maxRecDepth 100000 in
theorem m_X4_thrown (l : Launch) (G : va_G) (cI : ClassId) (y yp yb yr yl : Nat) (th h9 s9 : Int32) : Met l yX4_thrown wsX4_thrown ({ frames := 0, cells := 0, slots := 0, locals := 0 }) (bv_P [.ref y] G cI (fun H => va_P G vwCl [(y, .inr (4, [.int th, .int h9, .ref yp, .int s9, .ref yb, .ref yr, .ref yl]))] H)) (vp_Si (fun r9 : Int32 => r9 = th)) 0 0 (fun _ => False) := by
  refine Met.ofW (cc := cX4_thrown) (maxL := 1) (ret := (some .int)) (by decide) rfl ?_
  intro p e s m args below meth c s₁ B hml hv
  obtain ⟨rfl, hP, hE⟩ := hv
  have hx := B.exec
  have hb := B.bytes
  have hr := B.returns
  have hts := atoms_spec (ws := wsX4_thrown) B.pre
  have hown : s.vm.findClass RX4 = some m.cls := findClass_of_methodNamed B.named
  have hlocks := B.notSynchronized
  have hK := hE.1
  have hw0 := hts (.fieldLink RX4 22 "BeliefReviserModel" "thrown" "I") (List.mem_of_getElem? (i := 1) rfl)
  have hw1 : ∀ w ∈ u_ws RX4 TX4 7, w ∈ wsX4_thrown := by decide +kernel
  have hP : va_P G vwCl [(y, .inr (4, [.int th, .int h9, .ref yp, .int s9, .ref yb, .ref yr, .ref yl]))] s.heap := hP
  have hl := lv_entry ([.ref y]) (n := 1) (Nat.le_of_ble_eq_true rfl)
  rw [lg_entry_eq]
  generalize (lg_sl ([.ref y]) ++ List.replicate (1 - (lg_sl ([.ref y])).length) Slot.unset).toArray = ls at hl ⊢
  have hl : lv_has ls 1 [(0, .ref y)] := hl
  refine lv_aload_n (pc := 0) hx hb dX4_thrown_0 rfl (lv_at hl 0 rfl) ?_
  refine va_get (pc := 1) (D := G) (ci := 4) (v := .int th) (C := RX4) (T := TX4) (N := 7) hx hb hts hw1 hown hK hP 0 rfl rfl 0 (by decide) hw0 (fun _ h9 => h9) rfl dX4_thrown_1 ?_
  exact W.iret (pc := 4) (v := th) hx hb hr (fun T8 hT8 hW8 => ⟨th, rfl, rfl, hT8⟩) (fun _ h => nomatch h) dX4_thrown_4
set_option maxHeartbeats 4000000 in
set_option maxRecDepth 100000 in
theorem m_X4_no (l : Launch) (G : va_G) (cI : ClassId) (sz : Nat) (y yp yb yr yl : Nat) (th h9 s9 v9 : Int32) : Met l yX4_no wsX4_no ({ frames := 0, cells := 0, slots := 0, locals := 0 }) (bv_P [.ref y, .int v9] G cI (fun H => H.size = sz ∧ va_P G vwCl [(y, .inr (4, [.int th, .int h9, .ref yp, .int s9, .ref yb, .ref yr, .ref yl]))] H ∧ va_D (fun _ => True) [(y, .inr (4, [.int th, .int h9, .ref yp, .int s9, .ref yb, .ref yr, .ref yl]))])) (va_Qi (fun (r9 : Int32) (_ : Unit) => r9 = 0) (fun (_ : Unit) (T9 : State) => va_P G vwCl [(y, .inr (4, [.int v9, .int h9, .ref yp, .int s9, .ref yb, .ref yr, .ref yl]))] T9.heap) (va_A [(y, .inr (4, [.int th, .int h9, .ref yp, .int s9, .ref yb, .ref yr, .ref yl]))] sz)) 0 0 (va_A [(y, .inr (4, [.int th, .int h9, .ref yp, .int s9, .ref yb, .ref yr, .ref yl]))] sz) := by
  refine Met.ofW (cc := cX4_no) (maxL := 2) (ret := (some .int)) (by decide) rfl ?_
  intro p e s m args below meth c s₁ B hml hv
  obtain ⟨rfl, ⟨hsz, hP, hD0⟩, hE⟩ := hv
  have hx := B.exec
  have hb := B.bytes
  have hr := B.returns
  have hts := atoms_spec (ws := wsX4_no) B.pre
  have hown : s.vm.findClass RX4 = some m.cls := findClass_of_methodNamed B.named
  have hlocks := B.notSynchronized
  have hK := hE.1
  have hw0 := hts (.fieldLink RX4 22 "BeliefReviserModel" "thrown" "I") (List.mem_of_getElem? (i := 1) rfl)
  have hw1 : ∀ w ∈ u_ws RX4 TX4 7, w ∈ wsX4_no := by decide +kernel
  subst hsz
  have hD := hD0.self (sz := s.heap.size)
  generalize hAe : va_A [(y, .inr (4, [.int th, .int h9, .ref yp, .int s9, .ref yb, .ref yr, .ref yl]))] s.heap.size = A at hD ⊢
  have hA : ∀ q : Nat, s.heap.size ≤ q → A q := fun q h => by rw [← hAe]; exact Or.inr h
  have hS : va_S A s.heap s.heap [] := va_S.rf
  have hP : va_P G vwCl [(y, .inr (4, [.int th, .int h9, .ref yp, .int s9, .ref yb, .ref yr, .ref yl]))] s.heap := hP
  have hl := lv_entry ([.ref y, .int v9]) (n := 2) (Nat.le_of_ble_eq_true rfl)
  rw [lg_entry_eq]
  generalize (lg_sl ([.ref y, .int v9]) ++ List.replicate (2 - (lg_sl ([.ref y, .int v9])).length) Slot.unset).toArray = ls at hl ⊢
  have hl : lv_has ls 2 [(0, .ref y), (1, .int v9)] := hl
  refine lv_aload_n (pc := 0) hx hb dX4_no_0 rfl (lv_at hl 0 rfl) ?_
  refine lv_iload_n (pc := 1) hx hb dX4_no_1 rfl (lv_at hl 1 rfl) ?_
  refine va_put (pc := 2) (D := G) (ci := 4) (v := .int v9) (ty := .int) (C := RX4) (T := TX4) (N := 7) hx hb hts hw1 tyX4 tyX4_ok nmX4 hown hK hP hD hS 0 rfl rfl 0 (by decide) hw0 (fun _ h9 => h9) rfl (by decide +kernel) rfl rfl (Nat.le_of_ble_eq_true rfl) dX4_no_2 (fun H locs hP hD hS => ?_)
  have hP : va_P G vwCl [(y, .inr (4, [.int v9, .int h9, .ref yp, .int s9, .ref yb, .ref yr, .ref yl]))] H := hP
  have hD : va_D A [(y, .inr (4, [.int v9, .int h9, .ref yp, .int s9, .ref yb, .ref yr, .ref yl]))] := hD
  refine lv_iconst (pc := 5) (v := 0) hx hb dX4_no_5 (by decide) ?_
  have hP9 : va_P G vwCl [(y, .inr (4, [.int v9, .int h9, .ref yp, .int s9, .ref yb, .ref yr, .ref yl]))] H := hP
  exact W.iret (pc := 6) (v := 0) hx hb hr (fun T8 hT8 hW8 => ⟨⟨0, (), rfl, rfl, bv_hP hT8 hP9⟩, hS.F hT8⟩) hS.2.2 dX4_no_6
set_option maxHeartbeats 4000000 in
set_option maxRecDepth 100000 in
theorem m_X4_isIn (l : Launch) (G : va_G) (cI : ClassId) (i a b : Int32) : Met l yX4_isIn wsX4_isIn ({ frames := 0, cells := 0, slots := 0, locals := 0 }) (bv_P [.int i, .int a, .int b] G cI (fun H => va_P G vwCl [] H)) (vp_Si (fun r9 : Int32 => r9 = (bv_b (decide (a ≤ i ∧ i ≤ b))))) 0 0 (fun _ => False) := by
  refine Met.ofW (cc := cX4_isIn) (maxL := 3) (ret := (some .boolean)) (by decide) rfl ?_
  intro p e s m args below meth c s₁ B hml hv
  obtain ⟨rfl, hP, hE⟩ := hv
  have hx := B.exec
  have hb := B.bytes
  have hr := B.returns
  have hts := atoms_spec (ws := wsX4_isIn) B.pre
  have hown : s.vm.findClass RX4 = some m.cls := findClass_of_methodNamed B.named
  have hlocks := B.notSynchronized
  have hK := hE.1
  have hP : va_P G vwCl [] s.heap := hP
  have hl := lv_entry ([.int i, .int a, .int b]) (n := 3) (Nat.le_of_ble_eq_true rfl)
  rw [lg_entry_eq]
  generalize (lg_sl ([.int i, .int a, .int b]) ++ List.replicate (3 - (lg_sl ([.int i, .int a, .int b])).length) Slot.unset).toArray = ls at hl ⊢
  have hl : lv_has ls 3 [(0, .int i), (1, .int a), (2, .int b)] := hl
  refine lv_iload_n (pc := 0) hx hb dX4_isIn_0 rfl (lv_at hl 0 rfl) ?_
  refine lv_iload_n (pc := 1) hx hb dX4_isIn_1 rfl (lv_at hl 1 rfl) ?_
  refine lv_icmp_lt (pc := 2) (tgt := 14) hx hb dX4_isIn_2 (by decide) (fun c2_1 => ?_) (fun c2_1 => ?_)
  · have h1 := c2_1
    refine lv_iconst (pc := 14) (v := 0) hx hb dX4_isIn_14 (by decide) ?_
    exact W.zret (pc := 15) (v := 0) hx hb hr rfl (fun T8 hT8 hW8 => ⟨0, rfl, (bv_dec_nb (fun h => Int32.not_lt.mpr h.1 h1)), hT8⟩) (fun _ h => nomatch h) dX4_isIn_15
  · have h1 := c2_1
    refine lv_iload_n (pc := 5) hx hb dX4_isIn_5 rfl (lv_at hl 0 rfl) ?_
    refine lv_iload_n (pc := 6) hx hb dX4_isIn_6 rfl (lv_at hl 2 rfl) ?_
    refine lv_icmp_gt (pc := 7) (tgt := 14) hx hb dX4_isIn_7 (by decide) (fun c7_2 => ?_) (fun c7_2 => ?_)
    · have h2 := c7_2
      refine lv_iconst (pc := 14) (v := 0) hx hb dX4_isIn_14 (by decide) ?_
      exact W.zret (pc := 15) (v := 0) hx hb hr rfl (fun T8 hT8 hW8 => ⟨0, rfl, (bv_dec_nb (fun h => Int32.not_lt.mpr h.2 h2)), hT8⟩) (fun _ h => nomatch h) dX4_isIn_15
    · have h2 := c7_2
      refine lv_iconst (pc := 10) (v := 1) hx hb dX4_isIn_10 (by decide) ?_
      refine lv_goto (pc := 11) (tgt := 15) hx hb dX4_isIn_11 (by decide) ?_
      exact W.zret (pc := 15) (v := 1) hx hb hr rfl (fun T8 hT8 hW8 => ⟨1, rfl, (bv_dec_b ⟨Int32.not_lt.mp h1, Int32.not_lt.mp h2⟩), hT8⟩) (fun _ h => nomatch h) dX4_isIn_15
set_option maxHeartbeats 4000000 in
set_option maxRecDepth 100000 in
theorem m_X4_has (l : Launch) (G : va_G) (cI : ClassId) (set m9 : Int32) : Met l yX4_has wsX4_has ({ frames := 0, cells := 0, slots := 0, locals := 0 }) (bv_P [.int set, .int m9] G cI (fun H => va_P G vwCl [] H)) (vp_Si (fun r9 : Int32 => r9 = (bv_b (bv_has set m9)))) 0 0 (fun _ => False) := by
  refine Met.ofW (cc := cX4_has) (maxL := 2) (ret := (some .boolean)) (by decide) rfl ?_
  intro p e s m args below meth c s₁ B hml hv
  obtain ⟨rfl, hP, hE⟩ := hv
  have hx := B.exec
  have hb := B.bytes
  have hr := B.returns
  have hts := atoms_spec (ws := wsX4_has) B.pre
  have hown : s.vm.findClass RX4 = some m.cls := findClass_of_methodNamed B.named
  have hlocks := B.notSynchronized
  have hK := hE.1
  have hP : va_P G vwCl [] s.heap := hP
  have hl := lv_entry ([.int set, .int m9]) (n := 2) (Nat.le_of_ble_eq_true rfl)
  rw [lg_entry_eq]
  generalize (lg_sl ([.int set, .int m9]) ++ List.replicate (2 - (lg_sl ([.int set, .int m9])).length) Slot.unset).toArray = ls at hl ⊢
  have hl : lv_has ls 2 [(0, .int set), (1, .int m9)] := hl
  refine lv_iload_n (pc := 0) hx hb dX4_has_0 rfl (lv_at hl 0 rfl) ?_
  refine lv_iload_n (pc := 1) hx hb dX4_has_1 rfl (lv_at hl 1 rfl) ?_
  refine lv_ishr (pc := 2) hx hb dX4_has_2 ?_
  refine lv_iconst (pc := 3) (v := 1) hx hb dX4_has_3 (by decide) ?_
  refine lv_iand (pc := 4) hx hb dX4_has_4 ?_
  refine lv_iconst (pc := 5) (v := 1) hx hb dX4_has_5 (by decide) ?_
  refine lv_icmp_ne (pc := 6) (tgt := 13) hx hb dX4_has_6 (by decide) (fun c6_1 => ?_) (fun c6_1 => ?_)
  · have c9 := c6_1
    refine lv_iconst (pc := 13) (v := 0) hx hb dX4_has_13 (by decide) ?_
    exact W.zret (pc := 14) (v := 0) hx hb hr rfl (fun T8 hT8 hW8 => ⟨0, rfl, (by rw [bv_has, decide_eq_false c9]; rfl), hT8⟩) (fun _ h => nomatch h) dX4_has_14
  · have c9 := c6_1
    refine lv_iconst (pc := 9) (v := 1) hx hb dX4_has_9 (by decide) ?_
    refine lv_goto (pc := 10) (tgt := 14) hx hb dX4_has_10 (by decide) ?_
    exact W.zret (pc := 14) (v := 1) hx hb hr rfl (fun T8 hT8 hW8 => ⟨1, rfl, (by rw [bv_has, decide_eq_true c9]; rfl), hT8⟩) (fun _ h => nomatch h) dX4_has_14
set_option maxHeartbeats 4000000 in
set_option maxRecDepth 100000 in
theorem m_X4_isSentence (l : Launch) (G : va_G) (cI : ClassId) (y yp yb yr yl n : Nat) (th h9 i : Int32) (hn : n ≤ 10) : Met l yX4_isSentence wsX4_isSentence ({ frames := 1, cells := 0, slots := 0, locals := 22 }) (bv_P [.ref y, .int i] G cI (fun H => va_P G vwCl [(y, .inr (4, [.int th, .int h9, .ref yp, .int (nI n), .ref yb, .ref yr, .ref yl]))] H)) (vp_Si (fun r9 : Int32 => r9 = (bv_b (decide (0 ≤ i ∧ i < nI n))))) 0 0 (fun _ => False) := by
  refine Met.ofW (cc := cX4_isSentence) (maxL := 2) (ret := (some .boolean)) (by decide) rfl ?_
  intro p e s m args below meth c s₁ B hml hv
  obtain ⟨rfl, hP, hE⟩ := hv
  have hx := B.exec
  have hb := B.bytes
  have hr := B.returns
  have hts := atoms_spec (ws := wsX4_isSentence) B.pre
  have hown : s.vm.findClass RX4 = some m.cls := findClass_of_methodNamed B.named
  have hlocks := B.notSynchronized
  have hK := hE.1
  have hw0 := hts (.fieldLink RX4 26 "BeliefReviserModel" "size" "I") (List.mem_of_getElem? (i := 1) rfl)
  have hw1 : ∀ w ∈ u_ws RX4 TX4 7, w ∈ wsX4_isSentence := by decide +kernel
  have hw2 := hts (.static yX4_isIn) (List.mem_of_getElem? (i := 3) rfl)
  have hP : va_P G vwCl [(y, .inr (4, [.int th, .int h9, .ref yp, .int (nI n), .ref yb, .ref yr, .ref yl]))] s.heap := hP
  have hl := lv_entry ([.ref y, .int i]) (n := 2) (Nat.le_of_ble_eq_true rfl)
  rw [lg_entry_eq]
  generalize (lg_sl ([.ref y, .int i]) ++ List.replicate (2 - (lg_sl ([.ref y, .int i])).length) Slot.unset).toArray = ls at hl ⊢
  have hl : lv_has ls 2 [(0, .ref y), (1, .int i)] := hl
  refine lv_iload_n (pc := 0) hx hb dX4_isSentence_0 rfl (lv_at hl 1 rfl) ?_
  refine lv_iconst (pc := 1) (v := 0) hx hb dX4_isSentence_1 (by decide) ?_
  refine lv_aload_n (pc := 2) hx hb dX4_isSentence_2 rfl (lv_at hl 0 rfl) ?_
  refine va_get (pc := 3) (D := G) (ci := 4) (v := .int (nI n)) (C := RX4) (T := TX4) (N := 7) hx hb hts hw1 hown hK hP 0 rfl rfl 3 (by decide) hw0 (fun _ h9 => h9) rfl dX4_isSentence_3 ?_
  refine lv_iconst (pc := 6) (v := 1) hx hb dX4_isSentence_6 (by decide) ?_
  refine lv_isub (pc := 7) hx hb dX4_isSentence_7 ?_
  have hPc := hP.sub (ws' := []) [] rfl
  refine bv_cSi (pc := 8) (E' := (bv_b (decide (0 ≤ i ∧ i < nI n)))) (va_runS (As := [.int i, .int 0, .int ((nI n) - 1)]) (rest := []) ⟨hx, hb, hml, hown, hts⟩ (m_X4_isIn l G cI i 0 ((nI n) - 1) ) (va_cwS 3 hts gX4_isSentence_X4_isIn rfl rfl rfl (by decide +kernel) ⟨Nat.le_of_ble_eq_true rfl, Nat.le_of_ble_eq_true rfl⟩) (bv_pS hE hPc) rfl rfl hl.1 rfl (lv_room (Nat.le_of_ble_eq_true rfl)) dX4_isSentence_8 ⟨Nat.le_of_ble_eq_true rfl, Nat.le_of_ble_eq_true rfl⟩) (by simp only [bv_le_m1 (show n < 2 ^ 30 by omega)]) ?_
  exact W.zret (pc := 11) (v := (bv_b (decide (0 ≤ i ∧ i < nI n)))) hx hb hr (bv_nz _) (fun T8 hT8 hW8 => ⟨(bv_b (decide (0 ≤ i ∧ i < nI n))), rfl, rfl, hT8⟩) (fun _ h => nomatch h) dX4_isSentence_11
set_option maxHeartbeats 4000000 in
set_option maxRecDepth 100000 in
theorem m_X4_isSet (l : Launch) (G : va_G) (cI : ClassId) (y yp yb yr yl n : Nat) (th h9 i : Int32) (hn : n ≤ 10) : Met l yX4_isSet wsX4_isSet ({ frames := 1, cells := 0, slots := 0, locals := 22 }) (bv_P [.ref y, .int i] G cI (fun H => va_P G vwCl [(y, .inr (4, [.int th, .int h9, .ref yp, .int (nI n), .ref yb, .ref yr, .ref yl]))] H)) (vp_Si (fun r9 : Int32 => r9 = (bv_b (decide (0 ≤ i ∧ i < nI (2 ^ n)))))) 0 0 (fun _ => False) := by
  refine Met.ofW (cc := cX4_isSet) (maxL := 2) (ret := (some .boolean)) (by decide) rfl ?_
  intro p e s m args below meth c s₁ B hml hv
  obtain ⟨rfl, hP, hE⟩ := hv
  have hx := B.exec
  have hb := B.bytes
  have hr := B.returns
  have hts := atoms_spec (ws := wsX4_isSet) B.pre
  have hown : s.vm.findClass RX4 = some m.cls := findClass_of_methodNamed B.named
  have hlocks := B.notSynchronized
  have hK := hE.1
  have hw0 := hts (.fieldLink RX4 26 "BeliefReviserModel" "size" "I") (List.mem_of_getElem? (i := 1) rfl)
  have hw1 : ∀ w ∈ u_ws RX4 TX4 7, w ∈ wsX4_isSet := by decide +kernel
  have hw2 := hts (.static yX4_isIn) (List.mem_of_getElem? (i := 3) rfl)
  have hP : va_P G vwCl [(y, .inr (4, [.int th, .int h9, .ref yp, .int (nI n), .ref yb, .ref yr, .ref yl]))] s.heap := hP
  have hl := lv_entry ([.ref y, .int i]) (n := 2) (Nat.le_of_ble_eq_true rfl)
  rw [lg_entry_eq]
  generalize (lg_sl ([.ref y, .int i]) ++ List.replicate (2 - (lg_sl ([.ref y, .int i])).length) Slot.unset).toArray = ls at hl ⊢
  have hl : lv_has ls 2 [(0, .ref y), (1, .int i)] := hl
  refine lv_iload_n (pc := 0) hx hb dX4_isSet_0 rfl (lv_at hl 1 rfl) ?_
  refine lv_iconst (pc := 1) (v := 0) hx hb dX4_isSet_1 (by decide) ?_
  refine lv_iconst (pc := 2) (v := 1) hx hb dX4_isSet_2 (by decide) ?_
  refine lv_aload_n (pc := 3) hx hb dX4_isSet_3 rfl (lv_at hl 0 rfl) ?_
  refine va_get (pc := 4) (D := G) (ci := 4) (v := .int (nI n)) (C := RX4) (T := TX4) (N := 7) hx hb hts hw1 hown hK hP 0 rfl rfl 3 (by decide) hw0 (fun _ h9 => h9) rfl dX4_isSet_4 ?_
  refine lv_ishl (pc := 7) hx hb dX4_isSet_7 ?_
  refine lv_iconst (pc := 8) (v := 1) hx hb dX4_isSet_8 (by decide) ?_
  refine lv_isub (pc := 9) hx hb dX4_isSet_9 ?_
  have hPc := hP.sub (ws' := []) [] rfl
  refine bv_cSi (pc := 10) (E' := (bv_b (decide (0 ≤ i ∧ i < nI (2 ^ n))))) (va_runS (As := [.int i, .int 0, .int ((1 <<< ((nI n) &&& 31)) - 1)]) (rest := []) ⟨hx, hb, hml, hown, hts⟩ (m_X4_isIn l G cI i 0 ((1 <<< ((nI n) &&& 31)) - 1) ) (va_cwS 3 hts gX4_isSet_X4_isIn rfl rfl rfl (by decide +kernel) ⟨Nat.le_of_ble_eq_true rfl, Nat.le_of_ble_eq_true rfl⟩) (bv_pS hE hPc) rfl rfl hl.1 rfl (lv_room (Nat.le_of_ble_eq_true rfl)) dX4_isSet_10 ⟨Nat.le_of_ble_eq_true rfl, Nat.le_of_ble_eq_true rfl⟩) (by have h9 := bv_p10 hn; rw [bv_shl hn]; simp only [bv_le_m1 (show 2 ^ n < 2 ^ 30 by omega)]) ?_
  exact W.zret (pc := 13) (v := (bv_b (decide (0 ≤ i ∧ i < nI (2 ^ n))))) hx hb hr (bv_nz _) (fun T8 hT8 hW8 => ⟨(bv_b (decide (0 ≤ i ∧ i < nI (2 ^ n)))), rfl, rfl, hT8⟩) (fun _ h => nomatch h) dX4_isSet_13
set_option maxHeartbeats 4000000 in
set_option maxRecDepth 100000 in
theorem m_X4_top (l : Launch) (G : va_G) (cI : ClassId) (y yp yb yr yl pn : Nat) (th s9 : Int32) (pf : Nat → Int32) (j : Nat) (hj : j < pn) (hp : pn ≤ 12) : Met l yX4_top wsX4_top ({ frames := 0, cells := 0, slots := 0, locals := 0 }) (bv_P [.ref y, .int (nI j)] G cI (fun H => va_P G vwCl [(y, .inr (4, [.int th, .int (nI pn), .ref yp, .int s9, .ref yb, .ref yr, .ref yl])), (yp, .inl (cI, 12, .inl pf))] H)) (vp_Si (fun r9 : Int32 => r9 = (pf (pn - 1 - j)))) 0 0 (fun _ => False) := by
  refine Met.ofW (cc := cX4_top) (maxL := 2) (ret := (some .int)) (by decide) rfl ?_
  intro p e s m args below meth c s₁ B hml hv
  obtain ⟨rfl, hP, hE⟩ := hv
  have hx := B.exec
  have hb := B.bytes
  have hr := B.returns
  have hts := atoms_spec (ws := wsX4_top) B.pre
  have hown : s.vm.findClass RX4 = some m.cls := findClass_of_methodNamed B.named
  have hlocks := B.notSynchronized
  have hK := hE.1
  have hw0 := hts (.fieldLink RX4 9 "BeliefReviserModel" "pile" "[I") (List.mem_of_getElem? (i := 1) rfl)
  have hw1 : ∀ w ∈ u_ws RX4 TX4 7, w ∈ wsX4_top := by decide +kernel
  have hw2 := hts (.fieldLink RX4 33 "BeliefReviserModel" "high" "I") (List.mem_of_getElem? (i := 2) rfl)
  have hP : va_P G vwCl [(y, .inr (4, [.int th, .int (nI pn), .ref yp, .int s9, .ref yb, .ref yr, .ref yl])), (yp, .inl (cI, 12, .inl pf))] s.heap := hP
  have hl := lv_entry ([.ref y, .int (nI j)]) (n := 2) (Nat.le_of_ble_eq_true rfl)
  rw [lg_entry_eq]
  generalize (lg_sl ([.ref y, .int (nI j)]) ++ List.replicate (2 - (lg_sl ([.ref y, .int (nI j)])).length) Slot.unset).toArray = ls at hl ⊢
  have hl : lv_has ls 2 [(0, .ref y), (1, .int (nI j))] := hl
  refine lv_aload_n (pc := 0) hx hb dX4_top_0 rfl (lv_at hl 0 rfl) ?_
  refine va_get (pc := 1) (D := G) (ci := 4) (v := .ref yp) (C := RX4) (T := TX4) (N := 7) hx hb hts hw1 hown hK hP 0 rfl rfl 2 (by decide) hw0 (fun _ h9 => h9) rfl dX4_top_1 ?_
  refine lv_aload_n (pc := 4) hx hb dX4_top_4 rfl (lv_at hl 0 rfl) ?_
  refine va_get (pc := 5) (D := G) (ci := 4) (v := .int (nI pn)) (C := RX4) (T := TX4) (N := 7) hx hb hts hw1 hown hK hP 0 rfl rfl 1 (by decide) hw2 (fun _ h9 => h9) rfl dX4_top_5 ?_
  refine lv_iconst (pc := 8) (v := 1) hx hb dX4_top_8 (by decide) ?_
  refine lv_isub (pc := 9) hx hb dX4_top_9 ?_
  refine lv_iload_n (pc := 10) hx hb dX4_top_10 rfl (lv_at hl 1 rfl) ?_
  refine lv_isub (pc := 11) hx hb dX4_top_11 ?_
  rw [show (((nI pn) - 1) - (nI j)) = nI (pn - 1 - j) from by rw [show (1 : Int32) = nI 1 from rfl, bv_sub (by omega), bv_sub (by omega)]]
  refine bv_ial (pc := 12) hx hb hK hP 1 0 rfl rfl (by omega) (by omega) dX4_top_12 ?_
  exact W.iret (pc := 13) (v := (pf (pn - 1 - j))) hx hb hr (fun T8 hT8 hW8 => ⟨(pf (pn - 1 - j)), rfl, rfl, hT8⟩) (fun _ h => nomatch h) dX4_top_13
set_option maxHeartbeats 4000000 in
set_option maxRecDepth 100000 in
theorem m_X4_worldsOf (l : Launch) (G : va_G) (cI : ClassId) (i : Int32) (hi3 : 0 ≤ i ∧ i ≤ 3) : Met l yX4_worldsOf wsX4_worldsOf ({ frames := 1, cells := 0, slots := 0, locals := 21 }) (bv_P [.int i] G cI (fun H => va_P G vwCl [] H)) (vp_Si (fun r9 : Int32 => r9 = (bv_at 4 bv_AW i))) 0 0 (fun _ => False) := by
  refine Met.ofW (cc := cX4_worldsOf) (maxL := 3) (ret := (some .int)) (by decide) rfl ?_
  intro p e s m args below meth c s₁ B hml hv
  obtain ⟨rfl, hP, hE⟩ := hv
  have hx := B.exec
  have hb := B.bytes
  have hr := B.returns
  have hts := atoms_spec (ws := wsX4_worldsOf) B.pre
  have hown : s.vm.findClass RX4 = some m.cls := findClass_of_methodNamed B.named
  have hlocks := B.notSynchronized
  have hK := hE.1
  have hw0 := hts (.static yX4_has) (List.mem_of_getElem? (i := 2) rfl)
  have hP : va_P G vwCl [] s.heap := hP
  have hl := lv_entry ([.int i]) (n := 3) (Nat.le_of_ble_eq_true rfl)
  rw [lg_entry_eq]
  generalize (lg_sl ([.int i]) ++ List.replicate (3 - (lg_sl ([.int i])).length) Slot.unset).toArray = ls at hl ⊢
  have hl : lv_has ls 3 [(0, .int i)] := hl
  refine lv_iconst (pc := 0) (v := 0) hx hb dX4_worldsOf_0 (by decide) ?_
  refine lv_istore_n (pc := 1) (lv' := [(1, .int 0), (0, .int i)]) hx hb dX4_worldsOf_1 rfl hl (by decide) rfl (fun ls hl => ?_)
  refine lv_iconst (pc := 2) (v := 0) hx hb dX4_worldsOf_2 (by decide) ?_
  refine lv_istore_n (pc := 3) (lv' := [(2, .int 0), (1, .int 0), (0, .int i)]) hx hb dX4_worldsOf_3 rfl hl (by decide) rfl (fun ls hl => ?_)
  have loop_4 : ∀ (fu9 : Nat) (k : Nat) (a : Int32), 16 - k < fu9 → (k ≤ 16) → (a = bv_wof i k) → ∀ (ls : Array Slot), lv_has ls 3 [(2, .int (nI k)), (1, .int a), (0, .int i)] → W p l e (headSpec wsX4_worldsOf ({ frames := 1, cells := 0, slots := 0, locals := 21 })).room s m ([.int i] : List Value).toArray below meth c s.heap [] 0 0 (MQ below (vp_Si (fun r9 : Int32 => r9 = (bv_at 4 bv_AW i))) ([.int i] : List Value).toArray s 0 0 (fun _ => False)) (F0 m 4 ls []) := by
    intro fu9
    induction fu9 with
    | zero => intro k a hfu; exact absurd hfu (Nat.not_lt_zero _)
    | succ fu9 ih =>
      intro k a hfu hk hi ls hl
      refine lv_iload_n (pc := 4) hx hb dX4_worldsOf_4 rfl (lv_at hl 0 rfl) ?_
      refine lv_bipush (pc := 5) (v := 16) hx hb dX4_worldsOf_5 (by decide) ?_
      refine lv_icmp_ge (pc := 7) (tgt := 30) hx hb dX4_worldsOf_7 (by decide) (fun c7_1 => ?_) (fun c7_1 => ?_)
      · have hkn : 16 = k := by
          by_cases h : k < 16
          · exact absurd (show nI 16 ≤ nI k from c7_1) (nI_ge h (by omega))
          · omega
        subst hkn
        refine lv_iload_n (pc := 30) hx hb dX4_worldsOf_30 rfl (lv_at hl 1 rfl) ?_
        exact W.iret (pc := 31) (v := a) hx hb hr (fun T8 hT8 hW8 => ⟨a, rfl, (by rw [hi]; exact bv_wof_ok hi3), hT8⟩) (fun _ h => nomatch h) dX4_worldsOf_31
      · have hkn : k < 16 := by
          by_cases h : k < 16
          · exact h
          · exact absurd (show nI 16 ≤ nI k from nI_le (by omega) (by omega)) c7_1
        refine lv_iload_n (pc := 10) hx hb dX4_worldsOf_10 rfl (lv_at hl 0 rfl) ?_
        refine lv_iload_n (pc := 11) hx hb dX4_worldsOf_11 rfl (lv_at hl 2 rfl) ?_
        have hPc := hP.sub (ws' := []) [] rfl
        refine bv_cSi (pc := 12) (E' := (bv_b (bv_has (nI k) i))) (va_runS (As := [.int (nI k), .int i]) (rest := []) ⟨hx, hb, hml, hown, hts⟩ (m_X4_has l G cI (nI k) i ) (va_cwS 2 hts gX4_worldsOf_X4_has rfl rfl rfl (by decide +kernel) ⟨Nat.le_of_ble_eq_true rfl, Nat.le_of_ble_eq_true rfl⟩) (bv_pS hE hPc) rfl rfl hl.1 rfl (lv_room (Nat.le_of_ble_eq_true rfl)) dX4_worldsOf_12 ⟨Nat.le_of_ble_eq_true rfl, Nat.le_of_ble_eq_true rfl⟩) rfl ?_
        refine lv_if_eq (pc := 15) (tgt := 24) hx hb dX4_worldsOf_15 (by decide) (fun c15_4 => ?_) (fun c15_4 => ?_)
        · have h2 := bv_b0.mp c15_4
          refine lv_iinc (pc := 24) (v := (nI (k + 1))) (lv' := [(2, .int (nI (k + 1))), (1, .int a), (0, .int i)]) hx hb dX4_worldsOf_24 hl (k := 0) rfl (nI_1 k) (by decide) rfl (fun ls hl => ?_)
          refine lv_goto (pc := 27) (tgt := 4) hx hb dX4_worldsOf_27 (by decide) ?_
          exact ih (k + 1) a (by omega) (by omega) (by rw [bv_wof, if_neg (by rw [h2]; decide), hi]) ls (lv_sub hl [0, 1, 2] rfl)
        · have h2 := bv_b1.mp c15_4
          refine lv_iload_n (pc := 18) hx hb dX4_worldsOf_18 rfl (lv_at hl 1 rfl) ?_
          refine lv_iconst (pc := 19) (v := 1) hx hb dX4_worldsOf_19 (by decide) ?_
          refine lv_iload_n (pc := 20) hx hb dX4_worldsOf_20 rfl (lv_at hl 0 rfl) ?_
          refine lv_ishl (pc := 21) hx hb dX4_worldsOf_21 ?_
          refine lv_ior (pc := 22) hx hb dX4_worldsOf_22 ?_
          refine lv_istore_n (pc := 23) (lv' := [(1, .int (a ||| (1 <<< ((nI k) &&& 31)))), (2, .int (nI k)), (0, .int i)]) hx hb dX4_worldsOf_23 rfl hl (by decide) rfl (fun ls hl => ?_)
          refine lv_iinc (pc := 24) (v := (nI (k + 1))) (lv' := [(2, .int (nI (k + 1))), (1, .int (a ||| (1 <<< ((nI k) &&& 31)))), (0, .int i)]) hx hb dX4_worldsOf_24 hl (k := 1) rfl (nI_1 k) (by decide) rfl (fun ls hl => ?_)
          refine lv_goto (pc := 27) (tgt := 4) hx hb dX4_worldsOf_27 (by decide) ?_
          exact ih (k + 1) (a ||| (1 <<< ((nI k) &&& 31))) (by omega) (by omega) (by rw [bv_wof, if_pos h2, hi]) ls (lv_sub hl [0, 1, 2] rfl)
  exact loop_4 (16 - 0 + 1) 0 0 (Nat.lt_succ_self _) (Nat.zero_le _) rfl ls (lv_sub hl [0, 1, 2] rfl)
set_option maxHeartbeats 4000000 in
set_option maxRecDepth 100000 in
theorem m_X4_push_n (l : Launch) (G : va_G) (cI : ClassId) (sz : Nat) (y yp yb yr yl pn : Nat) (th s9 : Int32) (pf : Nat → Int32) (v9 k9 : Int32) (hp : pn ≤ 12) (h1 : ¬ pn < 12) : Met l yX4_push wsX4_push ({ frames := 1, cells := 0, slots := 0, locals := 21 }) (bv_P [.ref y, .int v9, .int k9] G cI (fun H => H.size = sz ∧ va_P G vwCl [(y, .inr (4, [.int th, .int (nI pn), .ref yp, .int s9, .ref yb, .ref yr, .ref yl])), (yp, .inl (cI, 12, .inl pf))] H ∧ va_D (fun _ => True) [(y, .inr (4, [.int th, .int (nI pn), .ref yp, .int s9, .ref yb, .ref yr, .ref yl])), (yp, .inl (cI, 12, .inl pf))])) (va_Qi (fun (r9 : Int32) (_ : Unit) => r9 = 0) (fun (_ : Unit) (T9 : State) => va_P G vwCl [(y, .inr (4, [.int k9, .int (nI pn), .ref yp, .int s9, .ref yb, .ref yr, .ref yl])), (yp, .inl (cI, 12, .inl pf))] T9.heap) (va_A [(y, .inr (4, [.int th, .int (nI pn), .ref yp, .int s9, .ref yb, .ref yr, .ref yl])), (yp, .inl (cI, 12, .inl pf))] sz)) 0 0 (va_A [(y, .inr (4, [.int th, .int (nI pn), .ref yp, .int s9, .ref yb, .ref yr, .ref yl])), (yp, .inl (cI, 12, .inl pf))] sz) := by
  refine Met.ofW (cc := cX4_push) (maxL := 3) (ret := (some .int)) (by decide) rfl ?_
  intro p e s m args below meth c s₁ B hml hv
  obtain ⟨rfl, ⟨hsz, hP, hD0⟩, hE⟩ := hv
  have hx := B.exec
  have hb := B.bytes
  have hr := B.returns
  have hts := atoms_spec (ws := wsX4_push) B.pre
  have hown : s.vm.findClass RX4 = some m.cls := findClass_of_methodNamed B.named
  have hlocks := B.notSynchronized
  have hK := hE.1
  have hw0 := hts (.fieldLink RX4 33 "BeliefReviserModel" "high" "I") (List.mem_of_getElem? (i := 1) rfl)
  have hw1 : ∀ w ∈ u_ws RX4 TX4 7, w ∈ wsX4_push := by decide +kernel
  subst hsz
  have hD := hD0.self (sz := s.heap.size)
  generalize hAe : va_A [(y, .inr (4, [.int th, .int (nI pn), .ref yp, .int s9, .ref yb, .ref yr, .ref yl])), (yp, .inl (cI, 12, .inl pf))] s.heap.size = A at hD ⊢
  have hA : ∀ q : Nat, s.heap.size ≤ q → A q := fun q h => by rw [← hAe]; exact Or.inr h
  have hS : va_S A s.heap s.heap [] := va_S.rf
  have hP : va_P G vwCl [(y, .inr (4, [.int th, .int (nI pn), .ref yp, .int s9, .ref yb, .ref yr, .ref yl])), (yp, .inl (cI, 12, .inl pf))] s.heap := hP
  have hl := lv_entry ([.ref y, .int v9, .int k9]) (n := 3) (Nat.le_of_ble_eq_true rfl)
  rw [lg_entry_eq]
  generalize (lg_sl ([.ref y, .int v9, .int k9]) ++ List.replicate (3 - (lg_sl ([.ref y, .int v9, .int k9])).length) Slot.unset).toArray = ls at hl ⊢
  have hl : lv_has ls 3 [(0, .ref y), (1, .int v9), (2, .int k9)] := hl
  refine lv_aload_n (pc := 0) hx hb dX4_push_0 rfl (lv_at hl 0 rfl) ?_
  refine va_get (pc := 1) (D := G) (ci := 4) (v := .int (nI pn)) (C := RX4) (T := TX4) (N := 7) hx hb hts hw1 hown hK hP 0 rfl rfl 1 (by decide) hw0 (fun _ h9 => h9) rfl dX4_push_1 ?_
  refine lv_bipush (pc := 4) (v := 12) hx hb dX4_push_4 (by decide) ?_
  refine lv_icmp_ne (pc := 6) (tgt := 15) hx hb dX4_push_6 (by decide) (fun c6_1 => ?_) (fun c6_1 => ?_)
  · exact absurd (show nI pn = nI 12 from by rw [show pn = 12 by omega]) c6_1
  · refine lv_aload_n (pc := 9) hx hb dX4_push_9 rfl (lv_at hl 0 rfl) ?_
    refine lv_iload_n (pc := 10) hx hb dX4_push_10 rfl (lv_at hl 2 rfl) ?_
    have hPc := hP.sub (ws' := [(y, .inr (4, [.int th, .int (nI pn), .ref yp, .int s9, .ref yb, .ref yr, .ref yl]))]) [0] rfl
    have hDc := hD.sub (ws' := [(y, .inr (4, [.int th, .int (nI pn), .ref yp, .int s9, .ref yb, .ref yr, .ref yl]))]) [0] (by decide) rfl
    have hFc := va_free (wc := [(y, .inr (4, [.int th, .int (nI pn), .ref yp, .int s9, .ref yb, .ref yr, .ref yl]))]) hD hS hA [0] rfl
    refine bv_cMi (pc := 11) (E' := 0) (va_runV (As := [.int k9]) (rest := []) ⟨hx, hb, hml, hown, hts⟩ (m_X4_no l G cI s.heap.size y yp yb yr yl th (nI pn) s9 k9 ) (cwV 1 hts gX4_push_X4_no rfl rfl rfl (by decide +kernel) ⟨Nat.le_of_ble_eq_true rfl, Nat.le_of_ble_eq_true rfl⟩) (bv_pV hE ⟨rfl, hPc, hDc.weaken (fun _ _ _ _ => trivial)⟩ (va_recv hK hP (ci := 4) (q0 := 0) rfl rfl)) rfl rfl hl.1 rfl (lv_room (Nat.le_of_ble_eq_true rfl)) dX4_push_11 ⟨Nat.le_of_ble_eq_true rfl, Nat.le_of_ble_eq_true rfl⟩) hS (fun q _ h => hFc q h) hFc rfl (fun t8 H1 locs ht8 hvm8 hB8 hz1 hk1 hS => ?_)
    have hP1 : va_P G vwCl [(y, .inr (4, [.int k9, .int (nI pn), .ref yp, .int s9, .ref yb, .ref yr, .ref yl]))] H1 := by rw [← ht8]; exact hB8
    obtain ⟨hP, hD⟩ := va_join (wr := [(yp, .inl (cI, 12, .inl pf))]) (w1 := [(y, .inr (4, [.int k9, .int (nI pn), .ref yp, .int s9, .ref yb, .ref yr, .ref yl]))]) hP hD [0] [1] rfl rfl (by decide) (by decide) hk1 hFc hP1 (bv_Dm (w0 := [(y, .inr (4, [.int th, .int (nI pn), .ref yp, .int s9, .ref yb, .ref yr, .ref yl]))]) [y] rfl rfl hDc.self)
    have hP : va_P G vwCl [(y, .inr (4, [.int k9, .int (nI pn), .ref yp, .int s9, .ref yb, .ref yr, .ref yl])), (yp, .inl (cI, 12, .inl pf))] H1 := hP.sub (ws' := [(y, .inr (4, [.int k9, .int (nI pn), .ref yp, .int s9, .ref yb, .ref yr, .ref yl])), (yp, .inl (cI, 12, .inl pf))]) [1, 0] rfl
    have hD : va_D A [(y, .inr (4, [.int k9, .int (nI pn), .ref yp, .int s9, .ref yb, .ref yr, .ref yl])), (yp, .inl (cI, 12, .inl pf))] := hD.sub (ws' := [(y, .inr (4, [.int k9, .int (nI pn), .ref yp, .int s9, .ref yb, .ref yr, .ref yl])), (yp, .inl (cI, 12, .inl pf))]) [1, 0] (by decide) rfl
    generalize H1 = H at hP hS ⊢
    have hP9 : va_P G vwCl [(y, .inr (4, [.int k9, .int (nI pn), .ref yp, .int s9, .ref yb, .ref yr, .ref yl])), (yp, .inl (cI, 12, .inl pf))] H := hP
    exact W.iret (pc := 14) (v := 0) hx hb hr (fun T8 hT8 hW8 => ⟨⟨0, (), rfl, rfl, bv_hP hT8 hP9⟩, hS.F hT8⟩) hS.2.2 dX4_push_14
set_option maxHeartbeats 4000000 in
set_option maxRecDepth 100000 in
theorem m_X4_push_p (l : Launch) (G : va_G) (cI : ClassId) (sz : Nat) (y yp yb yr yl pn : Nat) (th s9 : Int32) (pf : Nat → Int32) (v9 k9 : Int32) (hp : pn ≤ 12) (h1 : pn < 12) : Met l yX4_push wsX4_push ({ frames := 1, cells := 0, slots := 0, locals := 21 }) (bv_P [.ref y, .int v9, .int k9] G cI (fun H => H.size = sz ∧ va_P G vwCl [(y, .inr (4, [.int th, .int (nI pn), .ref yp, .int s9, .ref yb, .ref yr, .ref yl])), (yp, .inl (cI, 12, .inl pf))] H ∧ va_D (fun _ => True) [(y, .inr (4, [.int th, .int (nI pn), .ref yp, .int s9, .ref yb, .ref yr, .ref yl])), (yp, .inl (cI, 12, .inl pf))])) (va_Qi (fun (r9 : Int32) (_ : Unit) => r9 = (nI (pn + 1))) (fun (_ : Unit) (T9 : State) => va_P G vwCl [(y, .inr (4, [.int th, .int (nI (pn + 1)), .ref yp, .int s9, .ref yb, .ref yr, .ref yl])), (yp, .inl (cI, 12, .inl (upd pf pn v9)))] T9.heap) (va_A [(y, .inr (4, [.int th, .int (nI pn), .ref yp, .int s9, .ref yb, .ref yr, .ref yl])), (yp, .inl (cI, 12, .inl pf))] sz)) 0 0 (va_A [(y, .inr (4, [.int th, .int (nI pn), .ref yp, .int s9, .ref yb, .ref yr, .ref yl])), (yp, .inl (cI, 12, .inl pf))] sz) := by
  refine Met.ofW (cc := cX4_push) (maxL := 3) (ret := (some .int)) (by decide) rfl ?_
  intro p e s m args below meth c s₁ B hml hv
  obtain ⟨rfl, ⟨hsz, hP, hD0⟩, hE⟩ := hv
  have hx := B.exec
  have hb := B.bytes
  have hr := B.returns
  have hts := atoms_spec (ws := wsX4_push) B.pre
  have hown : s.vm.findClass RX4 = some m.cls := findClass_of_methodNamed B.named
  have hlocks := B.notSynchronized
  have hK := hE.1
  have hw0 := hts (.fieldLink RX4 33 "BeliefReviserModel" "high" "I") (List.mem_of_getElem? (i := 1) rfl)
  have hw1 : ∀ w ∈ u_ws RX4 TX4 7, w ∈ wsX4_push := by decide +kernel
  have hw2 := hts (.fieldLink RX4 9 "BeliefReviserModel" "pile" "[I") (List.mem_of_getElem? (i := 2) rfl)
  subst hsz
  have hD := hD0.self (sz := s.heap.size)
  generalize hAe : va_A [(y, .inr (4, [.int th, .int (nI pn), .ref yp, .int s9, .ref yb, .ref yr, .ref yl])), (yp, .inl (cI, 12, .inl pf))] s.heap.size = A at hD ⊢
  have hA : ∀ q : Nat, s.heap.size ≤ q → A q := fun q h => by rw [← hAe]; exact Or.inr h
  have hS : va_S A s.heap s.heap [] := va_S.rf
  have hP : va_P G vwCl [(y, .inr (4, [.int th, .int (nI pn), .ref yp, .int s9, .ref yb, .ref yr, .ref yl])), (yp, .inl (cI, 12, .inl pf))] s.heap := hP
  have hl := lv_entry ([.ref y, .int v9, .int k9]) (n := 3) (Nat.le_of_ble_eq_true rfl)
  rw [lg_entry_eq]
  generalize (lg_sl ([.ref y, .int v9, .int k9]) ++ List.replicate (3 - (lg_sl ([.ref y, .int v9, .int k9])).length) Slot.unset).toArray = ls at hl ⊢
  have hl : lv_has ls 3 [(0, .ref y), (1, .int v9), (2, .int k9)] := hl
  refine lv_aload_n (pc := 0) hx hb dX4_push_0 rfl (lv_at hl 0 rfl) ?_
  refine va_get (pc := 1) (D := G) (ci := 4) (v := .int (nI pn)) (C := RX4) (T := TX4) (N := 7) hx hb hts hw1 hown hK hP 0 rfl rfl 1 (by decide) hw0 (fun _ h9 => h9) rfl dX4_push_1 ?_
  refine lv_bipush (pc := 4) (v := 12) hx hb dX4_push_4 (by decide) ?_
  refine lv_icmp_ne (pc := 6) (tgt := 15) hx hb dX4_push_6 (by decide) (fun c6_1 => ?_) (fun c6_1 => ?_)
  · refine lv_aload_n (pc := 15) hx hb dX4_push_15 rfl (lv_at hl 0 rfl) ?_
    refine va_get (pc := 16) (D := G) (ci := 4) (v := .ref yp) (C := RX4) (T := TX4) (N := 7) hx hb hts hw1 hown hK hP 0 rfl rfl 2 (by decide) hw2 (fun _ h9 => h9) rfl dX4_push_16 ?_
    refine lv_aload_n (pc := 19) hx hb dX4_push_19 rfl (lv_at hl 0 rfl) ?_
    refine va_get (pc := 20) (D := G) (ci := 4) (v := .int (nI pn)) (C := RX4) (T := TX4) (N := 7) hx hb hts hw1 hown hK hP 0 rfl rfl 1 (by decide) hw0 (fun _ h9 => h9) rfl dX4_push_20 ?_
    refine lv_iload_n (pc := 23) hx hb dX4_push_23 rfl (lv_at hl 1 rfl) ?_
    refine bv_ias (pc := 24) hx hb hK hP hD hS 1 0 rfl rfl (by omega) (by omega) dX4_push_24 (fun H locs hP hD hS => ?_)
    have hP : va_P G vwCl [(y, .inr (4, [.int th, .int (nI pn), .ref yp, .int s9, .ref yb, .ref yr, .ref yl])), (yp, .inl (cI, 12, .inl (upd pf pn v9)))] H := hP
    have hD : va_D A [(y, .inr (4, [.int th, .int (nI pn), .ref yp, .int s9, .ref yb, .ref yr, .ref yl])), (yp, .inl (cI, 12, .inl (upd pf pn v9)))] := hD
    refine lv_aload_n (pc := 25) hx hb dX4_push_25 rfl (lv_at hl 0 rfl) ?_
    refine lv_dup (pc := 26) hx hb dX4_push_26 rfl ?_
    refine va_get (pc := 27) (D := G) (ci := 4) (v := .int (nI pn)) (C := RX4) (T := TX4) (N := 7) hx hb hts hw1 hown hK hP 0 rfl rfl 1 (by decide) hw0 (fun _ h9 => h9) rfl dX4_push_27 ?_
    refine lv_iconst (pc := 30) (v := 1) hx hb dX4_push_30 (by decide) ?_
    refine lv_iadd (pc := 31) hx hb dX4_push_31 ?_
    rw [show ((nI pn) + 1) = (nI (pn + 1)) from nI_1 pn]
    refine va_put (pc := 32) (D := G) (ci := 4) (v := .int (nI (pn + 1))) (ty := .int) (C := RX4) (T := TX4) (N := 7) hx hb hts hw1 tyX4 tyX4_ok nmX4 hown hK hP hD hS 0 rfl rfl 1 (by decide) hw0 (fun _ h9 => h9) rfl (by decide +kernel) rfl rfl (Nat.le_of_ble_eq_true rfl) dX4_push_32 (fun H locs hP hD hS => ?_)
    have hP : va_P G vwCl [(y, .inr (4, [.int th, .int (nI (pn + 1)), .ref yp, .int s9, .ref yb, .ref yr, .ref yl])), (yp, .inl (cI, 12, .inl (upd pf pn v9)))] H := hP
    have hD : va_D A [(y, .inr (4, [.int th, .int (nI (pn + 1)), .ref yp, .int s9, .ref yb, .ref yr, .ref yl])), (yp, .inl (cI, 12, .inl (upd pf pn v9)))] := hD
    refine lv_aload_n (pc := 35) hx hb dX4_push_35 rfl (lv_at hl 0 rfl) ?_
    refine va_get (pc := 36) (D := G) (ci := 4) (v := .int (nI (pn + 1))) (C := RX4) (T := TX4) (N := 7) hx hb hts hw1 hown hK hP 0 rfl rfl 1 (by decide) hw0 (fun _ h9 => h9) rfl dX4_push_36 ?_
    have hP9 : va_P G vwCl [(y, .inr (4, [.int th, .int (nI (pn + 1)), .ref yp, .int s9, .ref yb, .ref yr, .ref yl])), (yp, .inl (cI, 12, .inl (upd pf pn v9)))] H := hP
    exact W.iret (pc := 39) (v := (nI (pn + 1))) hx hb hr (fun T8 hT8 hW8 => ⟨⟨(nI (pn + 1)), (), rfl, rfl, bv_hP hT8 hP9⟩, hS.F hT8⟩) hS.2.2 dX4_push_39
  · have h : pn = 12 := (nI_eq (b := 12) (by omega) (by decide)).mp c6_1
    omega
