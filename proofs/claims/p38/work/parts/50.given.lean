/-! What the start gives. -/
theorem bv_nwTB : ∀ q ∈ bv_nwL, Cond.methodLinkNest q.1 q.2.1 q.2.2 RX3 ∈ lw_tbl := by decide +kernel
theorem bv_zTB : ∀ w ∈ [Cond.laysStatic RX3 "ATOM_WORLDS" "[I", Cond.initialized RX3, Cond.arrayClass .int, Cond.instantiable RX0 4, Cond.instantiable RX1 2, Cond.instantiable RX2 2, Cond.instantiable RX3 3], w ∈ lw_tbl := by decide +kernel
theorem bv_zOK : ∀ w ∈ [Cond.arrayOf (.static RX3 "ATOM_WORLDS" "[I") .int, Cond.eq (.length (.static RX3 "ATOM_WORLDS" "[I")) (.int 4), Cond.eq (.elem (.static RX3 "ATOM_WORLDS" "[I") (.int 0)) (.int 43690), Cond.eq (.elem (.static RX3 "ATOM_WORLDS" "[I") (.int 1)) (.int 52428), Cond.eq (.elem (.static RX3 "ATOM_WORLDS" "[I") (.int 2)) (.int 61680), Cond.eq (.elem (.static RX3 "ATOM_WORLDS" "[I") (.int 3)) (.int 65280)], w ∈ flatC (Jvm.Cond.and given_1 narrow_1) := by decide +kernel
theorem bv_giveX {s : State} {args : Array Value} (hts : ∀ w ∈ lw_tbl, w.before args s = true) (hgv : (Jvm.Cond.and given_1 narrow_1).before args s = true) : bv_XA (fun q : Nat => s.heap.size ≤ q) s s.heap := by
  have hs := flat_of_before _ hgv
  have hA0 : ∀ a : Nat, a < s.heap.size → ¬ (fun q : Nat => s.heap.size ≤ q) a := fun a h => Nat.not_le.mpr h
  obtain ⟨t, ht, hT⟩ := va_Tof (N := 4) (f := fun j => .int (bv_AW j)) (A := fun q : Nat => s.heap.size ≤ q) (by decide) (hs _ (bv_zOK _ (List.mem_of_getElem? (i := 0) rfl))) (va_eqt (z := 4) (hs _ (bv_zOK _ (List.mem_of_getElem? (i := 1) rfl)))) (fun j hj => by
    rcases (show j = 0 ∨ j = 1 ∨ j = 2 ∨ j = 3 by omega) with rfl | rfl | rfl | rfl
    · exact va_eqt (z := 43690) (hs _ (bv_zOK _ (List.mem_of_getElem? (i := 2) rfl)))
    · exact va_eqt (z := 52428) (hs _ (bv_zOK _ (List.mem_of_getElem? (i := 3) rfl)))
    · exact va_eqt (z := 61680) (hs _ (bv_zOK _ (List.mem_of_getElem? (i := 4) rfl)))
    · exact va_eqt (z := 65280) (hs _ (bv_zOK _ (List.mem_of_getElem? (i := 5) rfl)))) hA0
  have hZ := va_Zref (A := fun q : Nat => s.heap.size ≤ q) (hts _ (bv_zTB _ (List.mem_of_getElem? (i := 0) rfl))) (hts _ (bv_zTB _ (List.mem_of_getElem? (i := 1) rfl))) ht hA0
  exact ⟨t, hZ, hT⟩
theorem bv_arr {s : State} {args : Array Value} {ty : FieldType} (h : (Cond.arrayClass ty).before args s = true) : ∃ cA : ClassId, ArrOfT s cA ty ∧ s.vm.findClass ("[" ++ ty.toString) = some cA := by
  obtain ⟨cA, kA, comp, h1, h2, h3⟩ := Cond.arrayClass_spec h
  exact ⟨cA, fun n z => ⟨fun k h => (by cases h), kA, h2, comp, h3⟩, h1⟩
theorem bv_giveE {s : State} {args : Array Value} (hts : ∀ w ∈ lw_tbl, w.before args s = true) : ∃ (G : va_G) (cI : ClassId), bv_E G cI s := by
  obtain ⟨c0, i0, k0⟩ := u_known (C := RX0) (T := TX0) (N := 4) (n := 4) hts inX0 (hts _ (bv_zTB _ (List.mem_of_getElem? (i := 3) rfl)))
  obtain ⟨c1, i1, k1⟩ := u_known (C := RX1) (T := TX1) (N := 2) (n := 2) hts inX1 (hts _ (bv_zTB _ (List.mem_of_getElem? (i := 4) rfl)))
  obtain ⟨c2, i2, k2⟩ := u_known (C := RX2) (T := TX2) (N := 2) (n := 2) hts inX2 (hts _ (bv_zTB _ (List.mem_of_getElem? (i := 5) rfl)))
  obtain ⟨c3, i3, k3⟩ := u_known (C := RX3) (T := TX3) (N := 3) (n := 3) hts inX3 (hts _ (bv_zTB _ (List.mem_of_getElem? (i := 6) rfl)))
  obtain ⟨cI, hI1, hI2⟩ := bv_arr (hts _ (bv_zTB _ (List.mem_of_getElem? (i := 2) rfl)))
  refine ⟨(fun k => match k with | 0 => c0 | 1 => c1 | 2 => c2 | _ => c3, fun k => match k with | 0 => i0 | 1 => i1 | 2 => i2 | _ => i3), cI, ?_⟩
  have hkc : ∀ (k : Nat) (q : vw_C), vwCl[k]? = some q → u_Kn s q.1 q.2.1 q.2.2 (match k with | 0 => c0 | 1 => c1 | 2 => c2 | _ => c3) (match k with | 0 => i0 | 1 => i1 | 2 => i2 | _ => i3) := by
    intro k q hq
    match k, hq with
    | 0, hq => cases hq; exact k0
    | 1, hq => cases hq; exact k1
    | 2, hq => cases hq; exact k2
    | 3, hq => cases hq; exact k3
    | k + 4, hq => simp [vwCl] at hq
  refine ⟨⟨hkc, fun k q hq => ?_⟩, fun q hq => va_Nw.of rfl (hts _ (bv_nwTB q hq))⟩
  match k, hq with
  | 0, hq => cases hq; exact ⟨hI1, hI2⟩
  | k + 1, hq => simp at hq

