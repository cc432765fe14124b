/-! The words of the statics: not, has, at, put, digestStep. -/
def bv_not (p : Int32) : Int32 := 65535 &&& (p ^^^ (-1))
def bv_has (set m : Int32) : Bool := decide (((set >>> (m &&& 31)) &&& 1) = 1)
def bv_at (n : Nat) (f : Nat → Int32) (i : Int32) : Int32 := if 0 ≤ i ∧ i < nI n then f i.toNatClampNeg else 0
theorem bv_at_nI {n : Nat} {f : Nat → Int32} {k : Nat} (h : k < n) (hn : n < 2 ^ 31) : bv_at n f (nI k) = f k := by
  have h1 : (0 : Int32) ≤ nI k := nI_pos' (by omega)
  have h2 : nI k < nI n := nI_lt h hn
  rw [bv_at, if_pos ⟨h1, h2⟩, nI_clamp (by omega)]
def bv_put (n : Nat) (f : Nat → Int32) (i v : Int32) : Nat → Int32 := if 0 ≤ i ∧ i < nI n then upd f i.toNatClampNeg v else f
theorem bv_put_nI {n : Nat} {f : Nat → Int32} {k : Nat} {v : Int32} (h : k < n) (hn : n < 2 ^ 31) : bv_put n f (nI k) v = upd f k v := by
  have h1 : (0 : Int32) ≤ nI k := nI_pos' (by omega)
  have h2 : nI k < nI n := nI_lt h hn
  rw [bv_put, if_pos ⟨h1, h2⟩, nI_clamp (by omega)]
def bv_dstep (d : Int64) (x : Int32) : Int64 := d * 31 + x.toInt64
theorem bv_in {n : Nat} {i : Int32} (h1 : ¬ i < 0) (h2 : ¬ nI n ≤ i) (hn : n < 2 ^ 31) : vp_in i n := by
  intro h
  rcases h with h | h
  · exact h1 h
  · apply h2
    obtain ⟨j, hj, rfl⟩ := nI_of h1
    rw [nI_clamp hj] at h
    exact nI_le h hj
theorem bv_lt_of {x y : Int32} (h : ¬ y ≤ x) : x < y := Int32.not_le.mp h
theorem bv_le_of {x y : Int32} (h : ¬ y < x) : x ≤ y := Int32.not_lt.mp h

set_option maxHeartbeats 4000000 in
set_option maxRecDepth 100000 in
theorem m_X3_not (l : Launch) (G : va_G) (cI : ClassId) (q : Int32) : Met l yX3_not wsX3_not ({ frames := 0, cells := 0, slots := 0, locals := 0 }) (bv_P [.int q] G cI (fun H => va_P G vwCl [] H)) (vp_Si (fun r9 : Int32 => r9 = (bv_not q))) 0 0 (fun _ => False) := by
  refine Met.ofW (cc := cX3_not) (maxL := 1) (ret := (some .int)) (by decide) rfl ?_
  intro p e s m args below meth c s₁ B hml hv
  obtain ⟨rfl, hP, hE⟩ := hv
  have hx := B.exec
  have hb := B.bytes
  have hr := B.returns
  have hts := atoms_spec (ws := wsX3_not) B.pre
  have hown : s.vm.findClass RX3 = some m.cls := findClass_of_methodNamed B.named
  have hlocks := B.notSynchronized
  have hK := hE.1
  have hw0 := hts (.constant RX3 52 65535) (List.mem_of_getElem? (i := 1) rfl)
  have hP : va_P G vwCl [] s.heap := hP
  have hl := lv_entry ([.int q]) (n := 1) (Nat.le_of_ble_eq_true rfl)
  rw [lg_entry_eq]
  generalize (lg_sl ([.int q]) ++ List.replicate (1 - (lg_sl ([.int q])).length) Slot.unset).toArray = ls at hl ⊢
  have hl : lv_has ls 1 [(0, .int q)] := hl
  refine lv_ldc (pc := 0) hx hb hown hw0 dX3_not_0 ?_
  refine lv_iload_n (pc := 2) hx hb dX3_not_2 rfl (lv_at hl 0 rfl) ?_
  refine lv_iconst (pc := 3) (v := (-1)) hx hb dX3_not_3 (by decide) ?_
  refine lv_ixor (pc := 4) hx hb dX3_not_4 ?_
  refine lv_iand (pc := 5) hx hb dX3_not_5 ?_
  exact W.iret (pc := 6) (v := (65535 &&& (q ^^^ (-1)))) hx hb hr (fun T8 hT8 hW8 => ⟨(65535 &&& (q ^^^ (-1))), rfl, rfl, hT8⟩) (fun _ h => nomatch h) dX3_not_6
set_option maxHeartbeats 4000000 in
set_option maxRecDepth 100000 in
theorem m_X3_has (l : Launch) (G : va_G) (cI : ClassId) (set m9 : Int32) : Met l yX3_has wsX3_has ({ frames := 0, cells := 0, slots := 0, locals := 0 }) (bv_P [.int set, .int m9] G cI (fun H => va_P G vwCl [] H)) (vp_Si (fun r9 : Int32 => r9 = (bv_b (bv_has set m9)))) 0 0 (fun _ => False) := by
  refine Met.ofW (cc := cX3_has) (maxL := 2) (ret := (some .boolean)) (by decide) rfl ?_
  intro p e s m args below meth c s₁ B hml hv
  obtain ⟨rfl, hP, hE⟩ := hv
  have hx := B.exec
  have hb := B.bytes
  have hr := B.returns
  have hts := atoms_spec (ws := wsX3_has) B.pre
  have hown : s.vm.findClass RX3 = some m.cls := findClass_of_methodNamed B.named
  have hlocks := B.notSynchronized
  have hK := hE.1
  have hP : va_P G vwCl [] s.heap := hP
  have hl := lv_entry ([.int set, .int m9]) (n := 2) (Nat.le_of_ble_eq_true rfl)
  rw [lg_entry_eq]
  generalize (lg_sl ([.int set, .int m9]) ++ List.replicate (2 - (lg_sl ([.int set, .int m9])).length) Slot.unset).toArray = ls at hl ⊢
  have hl : lv_has ls 2 [(0, .int set), (1, .int m9)] := hl
  refine lv_iload_n (pc := 0) hx hb dX3_has_0 rfl (lv_at hl 0 rfl) ?_
  refine lv_iload_n (pc := 1) hx hb dX3_has_1 rfl (lv_at hl 1 rfl) ?_
  refine lv_ishr (pc := 2) hx hb dX3_has_2 ?_
  refine lv_iconst (pc := 3) (v := 1) hx hb dX3_has_3 (by decide) ?_
  refine lv_iand (pc := 4) hx hb dX3_has_4 ?_
  refine lv_iconst (pc := 5) (v := 1) hx hb dX3_has_5 (by decide) ?_
  refine lv_icmp_ne (pc := 6) (tgt := 13) hx hb dX3_has_6 (by decide) (fun c6_1 => ?_) (fun c6_1 => ?_)
  · have c9 := c6_1
    refine lv_iconst (pc := 13) (v := 0) hx hb dX3_has_13 (by decide) ?_
    exact W.zret (pc := 14) (v := 0) hx hb hr rfl (fun T8 hT8 hW8 => ⟨0, rfl, (by rw [bv_has, decide_eq_false c9]; rfl), hT8⟩) (fun _ h => nomatch h) dX3_has_14
  · have c9 := c6_1
    refine lv_iconst (pc := 9) (v := 1) hx hb dX3_has_9 (by decide) ?_
    refine lv_goto (pc := 10) (tgt := 14) hx hb dX3_has_10 (by decide) ?_
    exact W.zret (pc := 14) (v := 1) hx hb hr rfl (fun T8 hT8 hW8 => ⟨1, rfl, (by rw [bv_has, decide_eq_true c9]; rfl), hT8⟩) (fun _ h => nomatch h) dX3_has_14
set_option maxHeartbeats 4000000 in
set_option maxRecDepth 100000 in
theorem m_X3_at (l : Launch) (G : va_G) (cI : ClassId) (q n : Nat) (f : Nat → Int32) (i : Int32) (hn : n < 2 ^ 31) : Met l yX3_at wsX3_at ({ frames := 0, cells := 0, slots := 0, locals := 0 }) (bv_P [.ref q, .int i] G cI (fun H => va_P G vwCl [(q, .inl (cI, n, .inl f))] H)) (vp_Si (fun r9 : Int32 => r9 = (bv_at n f i))) 0 0 (fun _ => False) := by
  refine Met.ofW (cc := cX3_at) (maxL := 2) (ret := (some .int)) (by decide) rfl ?_
  intro p e s m args below meth c s₁ B hml hv
  obtain ⟨rfl, hP, hE⟩ := hv
  have hx := B.exec
  have hb := B.bytes
  have hr := B.returns
  have hts := atoms_spec (ws := wsX3_at) B.pre
  have hown : s.vm.findClass RX3 = some m.cls := findClass_of_methodNamed B.named
  have hlocks := B.notSynchronized
  have hK := hE.1
  have hP : va_P G vwCl [(q, .inl (cI, n, .inl f))] s.heap := hP
  have hl := lv_entry ([.ref q, .int i]) (n := 2) (Nat.le_of_ble_eq_true rfl)
  rw [lg_entry_eq]
  generalize (lg_sl ([.ref q, .int i]) ++ List.replicate (2 - (lg_sl ([.ref q, .int i])).length) Slot.unset).toArray = ls at hl ⊢
  have hl : lv_has ls 2 [(0, .ref q), (1, .int i)] := hl
  refine lv_iload_n (pc := 0) hx hb dX3_at_0 rfl (lv_at hl 1 rfl) ?_
  refine lv_if_lt (pc := 1) (tgt := 16) hx hb dX3_at_1 (by decide) (fun c1_1 => ?_) (fun c1_1 => ?_)
  · have c1 := c1_1
    refine lv_iconst (pc := 16) (v := 0) hx hb dX3_at_16 (by decide) ?_
    exact W.iret (pc := 17) (v := 0) hx hb hr (fun T8 hT8 hW8 => ⟨0, rfl, (by rw [bv_at, if_neg (fun h => absurd (Int32.not_lt.mpr h.1) (not_not_intro c1))]), hT8⟩) (fun _ h => nomatch h) dX3_at_17
  · have c1 := c1_1
    refine lv_iload_n (pc := 4) hx hb dX3_at_4 rfl (lv_at hl 1 rfl) ?_
    refine lv_aload_n (pc := 5) hx hb dX3_at_5 rfl (lv_at hl 0 rfl) ?_
    refine va_alen (pc := 6) (v := (nI n)) hx hb hK hP 0 0 rfl rfl rfl dX3_at_6 ?_
    refine lv_icmp_ge (pc := 7) (tgt := 16) hx hb dX3_at_7 (by decide) (fun c7_2 => ?_) (fun c7_2 => ?_)
    · have c2 := c7_2
      refine lv_iconst (pc := 16) (v := 0) hx hb dX3_at_16 (by decide) ?_
      exact W.iret (pc := 17) (v := 0) hx hb hr (fun T8 hT8 hW8 => ⟨0, rfl, (by rw [bv_at, if_neg (fun h => absurd (Int32.not_le.mpr h.2) (not_not_intro c2))]), hT8⟩) (fun _ h => nomatch h) dX3_at_17
    · have c2 := c7_2
      refine lv_aload_n (pc := 10) hx hb dX3_at_10 rfl (lv_at hl 0 rfl) ?_
      refine lv_iload_n (pc := 11) hx hb dX3_at_11 rfl (lv_at hl 1 rfl) ?_
      refine va_iald (pc := 12) hx hb hK hP 0 0 rfl rfl (bv_in c1 c2 hn) dX3_at_12 ?_
      refine lv_goto (pc := 13) (tgt := 17) hx hb dX3_at_13 (by decide) ?_
      exact W.iret (pc := 17) (v := (f i.toNatClampNeg)) hx hb hr (fun T8 hT8 hW8 => ⟨(f i.toNatClampNeg), rfl, (by rw [bv_at, if_pos ⟨Int32.not_lt.mp c1, Int32.not_le.mp c2⟩]), hT8⟩) (fun _ h => nomatch h) dX3_at_17
set_option maxHeartbeats 4000000 in
set_option maxRecDepth 100000 in
theorem m_X3_put (l : Launch) (G : va_G) (cI : ClassId) (sz : Nat) (q n : Nat) (f : Nat → Int32) (i v : Int32) (hn : n < 2 ^ 31) : Met l yX3_put wsX3_put ({ frames := 0, cells := 0, slots := 0, locals := 0 }) (bv_P [.ref q, .int i, .int v] G cI (fun H => H.size = sz ∧ va_P G vwCl [(q, .inl (cI, n, .inl f))] H ∧ va_D (fun _ => True) [(q, .inl (cI, n, .inl f))])) (va_Qv (fun _ : Unit => True) (fun (_ : Unit) (T9 : State) => va_P G vwCl [(q, .inl (cI, n, .inl (bv_put n f i v)))] T9.heap) (va_A [(q, .inl (cI, n, .inl f))] sz)) 0 0 (va_A [(q, .inl (cI, n, .inl f))] sz) := by
  refine Met.ofW (cc := cX3_put) (maxL := 3) (ret := none) (by decide) rfl ?_
  intro p e s m args below meth c s₁ B hml hv
  obtain ⟨rfl, ⟨hsz, hP, hD0⟩, hE⟩ := hv
  have hx := B.exec
  have hb := B.bytes
  have hr := B.returns
  have hts := atoms_spec (ws := wsX3_put) B.pre
  have hown : s.vm.findClass RX3 = some m.cls := findClass_of_methodNamed B.named
  have hlocks := B.notSynchronized
  have hK := hE.1
  subst hsz
  have hD := hD0.self (sz := s.heap.size)
  generalize hAe : va_A [(q, .inl (cI, n, .inl f))] s.heap.size = A at hD ⊢
  have hA : ∀ q : Nat, s.heap.size ≤ q → A q := fun q h => by rw [← hAe]; exact Or.inr h
  have hS : va_S A s.heap s.heap [] := va_S.rf
  have hP : va_P G vwCl [(q, .inl (cI, n, .inl f))] s.heap := hP
  have hl := lv_entry ([.ref q, .int i, .int v]) (n := 3) (Nat.le_of_ble_eq_true rfl)
  rw [lg_entry_eq]
  generalize (lg_sl ([.ref q, .int i, .int v]) ++ List.replicate (3 - (lg_sl ([.ref q, .int i, .int v])).length) Slot.unset).toArray = ls at hl ⊢
  have hl : lv_has ls 3 [(0, .ref q), (1, .int i), (2, .int v)] := hl
  refine lv_iload_n (pc := 0) hx hb dX3_put_0 rfl (lv_at hl 1 rfl) ?_
  refine lv_if_lt (pc := 1) (tgt := 14) hx hb dX3_put_1 (by decide) (fun c1_1 => ?_) (fun c1_1 => ?_)
  · have c1 := c1_1
    have hP9 : va_P G vwCl [(q, .inl (cI, n, .inl (bv_put n f i v)))] s.heap := by rw [bv_put, if_neg (fun h => absurd (Int32.not_lt.mpr h.1) (not_not_intro c1))]; exact hP
    exact W.vret (pc := 14) hx hb hr (fun T8 hT8 hW8 => ⟨⟨(), rfl, trivial, bv_hP hT8 hP9⟩, hS.F hT8⟩) hS.2.2 dX3_put_14
  · have c1 := c1_1
    refine lv_iload_n (pc := 4) hx hb dX3_put_4 rfl (lv_at hl 1 rfl) ?_
    refine lv_aload_n (pc := 5) hx hb dX3_put_5 rfl (lv_at hl 0 rfl) ?_
    refine va_alen (pc := 6) (v := (nI n)) hx hb hK hP 0 0 rfl rfl rfl dX3_put_6 ?_
    refine lv_icmp_ge (pc := 7) (tgt := 14) hx hb dX3_put_7 (by decide) (fun c7_2 => ?_) (fun c7_2 => ?_)
    · have c2 := c7_2
      have hP9 : va_P G vwCl [(q, .inl (cI, n, .inl (bv_put n f i v)))] s.heap := by rw [bv_put, if_neg (fun h => absurd (Int32.not_le.mpr h.2) (not_not_intro c2))]; exact hP
      exact W.vret (pc := 14) hx hb hr (fun T8 hT8 hW8 => ⟨⟨(), rfl, trivial, bv_hP hT8 hP9⟩, hS.F hT8⟩) hS.2.2 dX3_put_14
    · have c2 := c7_2
      refine lv_aload_n (pc := 10) hx hb dX3_put_10 rfl (lv_at hl 0 rfl) ?_
      refine lv_iload_n (pc := 11) hx hb dX3_put_11 rfl (lv_at hl 1 rfl) ?_
      refine lv_iload_n (pc := 12) hx hb dX3_put_12 rfl (lv_at hl 2 rfl) ?_
      refine va_iast (pc := 13) hx hb hK hP hD hS 0 0 rfl rfl (bv_in c1 c2 hn) dX3_put_13 (fun H locs hP hD hS => ?_)
      have hP : va_P G vwCl [(q, .inl (cI, n, .inl (upd f i.toNatClampNeg v)))] H := hP
      have hD : va_D A [(q, .inl (cI, n, .inl (upd f i.toNatClampNeg v)))] := hD
      have hP9 : va_P G vwCl [(q, .inl (cI, n, .inl (bv_put n f i v)))] H := by rw [bv_put, if_pos ⟨Int32.not_lt.mp c1, Int32.not_le.mp c2⟩]; exact hP
      exact W.vret (pc := 14) hx hb hr (fun T8 hT8 hW8 => ⟨⟨(), rfl, trivial, bv_hP hT8 hP9⟩, hS.F hT8⟩) hS.2.2 dX3_put_14
