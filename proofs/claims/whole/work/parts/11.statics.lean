/-! The words of the statics: not, has, at, put, digestStep. -/
def bv_not (p : Int32) : Int32 := 65535 &&& (p ^^^ (-1))
def bv_has (set m : Int32) : Bool := decide (((set >>> (m &&& 31)) &&& 1) = 1)
def bv_at (n : Nat) (f : Nat → Int32) (i : Int32) : Int32 := if 0 ≤ i ∧ i < nI n then f i.toNatClampNeg else 0
theorem bv_at_nI {n : Nat} {f : Nat → Int32} {k : Nat} (h : k < n) (hn : n < 2 ^ 31) : bv_at n f (nI k) = f k := by
  have h1 : (0 : Int32) ≤ nI k := nI_pos' (by omega)
  have h2 : nI k < nI n := nI_lt h hn
  rw [bv_at, if_pos ⟨h1, h2⟩, nI_clamp (by omega)]
def bv_put (n : Nat) (f : Nat → Int32) (i v : Int32) : Nat → Int32 := if 0 ≤ i ∧ i < nI n then upd f i.toNatClampNeg v else f
theorem bv_put_nI {n : Nat} {f : Nat → Int32} {k : Nat} {v : Int32} (h : k < n) (hn : n < 2 ^ 31) : bv_put n f (nI k) v = upd f k v := by
  have h1 : (0 : Int32) ≤ nI k := nI_pos' (by omega)
  have h2 : nI k < nI n := nI_lt h hn
  rw [bv_put, if_pos ⟨h1, h2⟩, nI_clamp (by omega)]
def bv_dstep (d : Int64) (x : Int32) : Int64 := d * 31 + x.toInt64
theorem bv_in {n : Nat} {i : Int32} (h1 : ¬ i < 0) (h2 : ¬ nI n ≤ i) (hn : n < 2 ^ 31) : vp_in i n := by
  intro h
  rcases h with h | h
  · exact h1 h
  · apply h2
    obtain ⟨j, hj, rfl⟩ := nI_of h1
    rw [nI_clamp hj] at h
    exact nI_le h hj

set_option maxHeartbeats 4000000 in
set_option maxRecDepth 100000 in
theorem m_X3_not (l : Launch) (G : va_G) (cI : ClassId) (q : Int32) : Met l yX3_not wsX3_not ({ frames := 0, cells := 0, slots := 0, locals := 0 }) (bv_P [.int q] G cI (fun H => va_P G vwCl [] H)) (vp_Si (fun r : Int32 => r = (bv_not q))) 0 0 (fun _ => False) := by
  refine Met.ofW (cc := cX3_not) (maxL := 1) (ret := (some .int)) (by decide) rfl ?_
  intro p e s m args below meth c s₁ B hml hv
  obtain ⟨rfl, hP, hE⟩ := hv
  have hx := B.exec
  have hb := B.bytes
  have hr := B.returns
  have hts := atoms_spec (ws := wsX3_not) B.pre
  have hown : s.vm.findClass RX3 = some m.cls := findClass_of_methodNamed B.named
  have hlocks := B.notSynchronized
  have hK := hE.1
  have hP : va_P G vwCl [] s.heap := hP
  have hl := lv_entry ([.int q]) (n := 1) (Nat.le_of_ble_eq_true rfl)
  rw [lg_entry_eq]
  generalize (lg_sl ([.int q]) ++ List.replicate (1 - (lg_sl ([.int q])).length) Slot.unset).toArray = ls at hl ⊢
  have hl : lv_has ls 1 [(0, .int q)] := hl
  refine lv_ldc hx hb hown (hts (.constant RX3 52 65535) (by decide +kernel)) dX3_not_0 ?_
  refine lv_iload_n hx hb dX3_not_2 rfl (lv_at hl 0 rfl) ?_
  refine lv_iconst (v := (-1)) hx hb dX3_not_3 (by decide) ?_
  refine lv_ixor hx hb dX3_not_4 ?_
  refine lv_iand hx hb dX3_not_5 ?_
  exact W.iret (v := (65535 &&& (q ^^^ (-1)))) hx hb hr (fun t ht hW => ⟨(65535 &&& (q ^^^ (-1))), rfl, rfl, ht⟩) (fun _ h => nomatch h) dX3_not_6
set_option maxHeartbeats 4000000 in
set_option maxRecDepth 100000 in
theorem m_X3_digestStep (l : Launch) (G : va_G) (cI : ClassId) (d : Int64) (x : Int32) : Met l yX3_digestStep wsX3_digestStep ({ frames := 0, cells := 0, slots := 0, locals := 0 }) (bv_P [.long d, .int x] G cI (fun H => va_P G vwCl [] H)) (vp_Sl (fun r : Int64 => r = (bv_dstep d x))) 0 0 (fun _ => False) := by
  refine Met.ofW (cc := cX3_digestStep) (maxL := 3) (ret := (some .long)) (by decide) rfl ?_
  intro p e s m args below meth c s₁ B hml hv
  obtain ⟨rfl, hP, hE⟩ := hv
  have hx := B.exec
  have hb := B.bytes
  have hr := B.returns
  have hts := atoms_spec (ws := wsX3_digestStep) B.pre
  have hown : s.vm.findClass RX3 = some m.cls := findClass_of_methodNamed B.named
  have hlocks := B.notSynchronized
  have hK := hE.1
  have hP : va_P G vwCl [] s.heap := hP
  have hl := lv_entry ([.long d, .int x]) (n := 3) (Nat.le_of_ble_eq_true rfl)
  rw [lg_entry_eq]
  generalize (lg_sl ([.long d, .int x]) ++ List.replicate (3 - (lg_sl ([.long d, .int x])).length) Slot.unset).toArray = ls at hl ⊢
  have hl : lv_has ls 3 [(0, .long d), (2, .int x)] := hl
  refine lv_lload_n hx hb dX3_digestStep_0 rfl (lv_at hl 0 rfl) ?_
  refine lv_ldc2 hx hb hown (hts (.constantLong RX3 223 31) (by decide +kernel)) dX3_digestStep_1 ?_
  refine lv_lmul hx hb dX3_digestStep_4 ?_
  refine lv_iload_n hx hb dX3_digestStep_5 rfl (lv_at hl 1 rfl) ?_
  refine lv_i2l (v := (x.toInt64)) hx hb dX3_digestStep_6 rfl ?_
  refine lv_ladd hx hb dX3_digestStep_7 ?_
  exact W.lret (v := ((d * 31) + (x.toInt64))) hx hb hr (fun t ht hW => ⟨((d * 31) + (x.toInt64)), rfl, rfl, ht⟩) (fun _ h => nomatch h) dX3_digestStep_8
