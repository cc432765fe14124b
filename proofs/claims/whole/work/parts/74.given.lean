/-! What the start gives. -/
theorem bv_strOK : ∀ q ∈ bv_strL, Cond.exactly (.string RX3 q.1) "java/lang/String" ∈ flatC (Jvm.Cond.and given_1 narrow_1) := by decide +kernel
theorem bv_strTB : ∀ q ∈ bv_strL, Cond.stringRef RX3 q.1 q.2 ∈ lw_tbl := by decide +kernel
theorem bv_excTB : ∀ q ∈ bv_excL, ∀ w ∈ (vx_atS RX3 q.1 q.2 bv_nms).filter (fun w => !goodWord w), w ∈ lw_tbl := by decide +kernel
theorem bv_nwTB : ∀ q ∈ bv_nwL, Cond.methodLinkNest q.1 q.2.1 q.2.2 RX3 ∈ lw_tbl := by decide +kernel
theorem bv_castTB : ∀ q ∈ bv_excN, Cond.castable q q ∈ lw_tbl := by decide +kernel
theorem bv_ncOK : ∀ q ∈ bv_ncL, Cond.not (.castable q.1 q.2) ∈ flatC (Jvm.Cond.and given_1 narrow_1) := by decide +kernel
theorem bv_zTB : ∀ w ∈ [Cond.laysStatic Bundle.tN "UNASSIGNED_STACK" Bundle.steD, Cond.laysStatic Bundle.tN "SUPPRESSED_SENTINEL" Bundle.listD, Cond.initialized Bundle.tN, Cond.laysStatic RX3 "ATOM_WORLDS" "[I", Cond.initialized RX3, Cond.arrayClass .int, Cond.arrayClass .long, Cond.arrayClass .double, Cond.instantiable RX0 4, Cond.instantiable RX1 2, Cond.instantiable RX2 2, Cond.instantiable RX3 3, Cond.instantiable RX4 7], w ∈ lw_tbl := by decide +kernel
theorem bv_zOK : ∀ w ∈ [Cond.isRef (.static Bundle.tN "UNASSIGNED_STACK" Bundle.steD), Cond.isRef (.static Bundle.tN "SUPPRESSED_SENTINEL" Bundle.listD), Cond.arrayOf (.static RX3 "ATOM_WORLDS" "[I") .int, Cond.eq (.length (.static RX3 "ATOM_WORLDS" "[I")) (.int 4), Cond.eq (.elem (.static RX3 "ATOM_WORLDS" "[I") (.int 0)) (.int 43690), Cond.eq (.elem (.static RX3 "ATOM_WORLDS" "[I") (.int 1)) (.int 52428), Cond.eq (.elem (.static RX3 "ATOM_WORLDS" "[I") (.int 2)) (.int 61680), Cond.eq (.elem (.static RX3 "ATOM_WORLDS" "[I") (.int 3)) (.int 65280)], w ∈ flatC (Jvm.Cond.and given_1 narrow_1) := by decide +kernel
theorem bv_giveX {s : State} {args : Array Value} (hts : ∀ w ∈ lw_tbl, w.before args s = true) (hgv : (Jvm.Cond.and given_1 narrow_1).before args s = true) (cI : ClassId) : ∀ (H : Heap) (locs : List Loc), va_S (fun q : Nat => s.heap.size ≤ q) s.heap H locs → bv_X cI s H := by
  have hs := flat_of_before _ hgv
  have hA0 : ∀ a : Nat, a < s.heap.size → ¬ (fun q : Nat => s.heap.size ≤ q) a := fun a h => Nat.not_le.mpr h
  have hU := vx_Zqof (A := fun q : Nat => s.heap.size ≤ q) (hts _ (bv_zTB _ (List.mem_of_getElem? (i := 0) rfl))) (hts _ (bv_zTB _ (List.mem_of_getElem? (i := 2) rfl))) (hs _ (bv_zOK _ (List.mem_of_getElem? (i := 0) rfl))) hA0
  have hN := vx_Zqof (A := fun q : Nat => s.heap.size ≤ q) (hts _ (bv_zTB _ (List.mem_of_getElem? (i := 1) rfl))) (hts _ (bv_zTB _ (List.mem_of_getElem? (i := 2) rfl))) (hs _ (bv_zOK _ (List.mem_of_getElem? (i := 1) rfl))) hA0
  obtain ⟨t, ht, hT⟩ := va_Tof (N := 4) (f := fun j => .int (bv_AW j)) (A := fun q : Nat => s.heap.size ≤ q) (by decide) (hs _ (bv_zOK _ (List.mem_of_getElem? (i := 2) rfl))) (va_eqt (z := 4) (hs _ (bv_zOK _ (List.mem_of_getElem? (i := 3) rfl)))) (fun j hj => by
    rcases (show j = 0 ∨ j = 1 ∨ j = 2 ∨ j = 3 by omega) with rfl | rfl | rfl | rfl
    · exact va_eqt (z := 43690) (hs _ (bv_zOK _ (List.mem_of_getElem? (i := 4) rfl)))
    · exact va_eqt (z := 52428) (hs _ (bv_zOK _ (List.mem_of_getElem? (i := 5) rfl)))
    · exact va_eqt (z := 61680) (hs _ (bv_zOK _ (List.mem_of_getElem? (i := 6) rfl)))
    · exact va_eqt (z := 65280) (hs _ (bv_zOK _ (List.mem_of_getElem? (i := 7) rfl)))) hA0
  have hZ := va_Zref (A := fun q : Nat => s.heap.size ≤ q) (hts _ (bv_zTB _ (List.mem_of_getElem? (i := 3) rfl))) (hts _ (bv_zTB _ (List.mem_of_getElem? (i := 4) rfl))) ht hA0
  intro H locs hS
  have hq : ∀ a : Nat, a < s.heap.size → ¬ (fun q : Nat => s.heap.size ≤ q) a → H[a]? = s.heap[a]? := hS.2.1
  refine ⟨fun q h => ?_, fun q h w hw => va_Nw.of (bv_cdw_on (bv_cdw_all q h w hw)) (hts w (bv_excTB q h w hw)), (hU.kept hq).narrow (fun _ h => False.elim h), (hN.kept hq).narrow (fun _ h => False.elim h), t, (hZ.kept hq).narrow (fun _ h => False.elim h), (hT.kept hq).narrow (fun _ h => False.elim h)⟩
  obtain ⟨a, c1, c2, c3, q1, -⟩ := Cond.exactly_spec (args := args) (first := s) (o := none) (s := s) (idx := []) (hs _ (bv_strOK q h))
  exact ⟨a, vk_R.of (hts _ (bv_strTB q h)) q1⟩
theorem bv_arr {s : State} {args : Array Value} {ty : FieldType} (h : (Cond.arrayClass ty).before args s = true) : ∃ cA : ClassId, ArrOfT s cA ty ∧ s.vm.findClass ("[" ++ ty.toString) = some cA := by
  obtain ⟨cA, kA, comp, h1, h2, h3⟩ := Cond.arrayClass_spec h
  exact ⟨cA, fun n z => ⟨fun k h => (by cases h), kA, h2, comp, h3⟩, h1⟩
theorem bv_giveE {s : State} {args : Array Value} (hts : ∀ w ∈ lw_tbl, w.before args s = true) (hgv : (Jvm.Cond.and given_1 narrow_1).before args s = true) : ∃ (G : va_G) (cI cJ cD : ClassId), bv_E G cI s ∧ bv_L G cJ cD s := by
  have hs := flat_of_before _ hgv
  obtain ⟨c0, i0, k0⟩ := u_known (C := RX0) (T := TX0) (N := 4) (n := 4) hts inX0 (hts _ (bv_zTB _ (List.mem_of_getElem? (i := 8) rfl)))
  obtain ⟨c1, i1, k1⟩ := u_known (C := RX1) (T := TX1) (N := 2) (n := 2) hts inX1 (hts _ (bv_zTB _ (List.mem_of_getElem? (i := 9) rfl)))
  obtain ⟨c2, i2, k2⟩ := u_known (C := RX2) (T := TX2) (N := 2) (n := 2) hts inX2 (hts _ (bv_zTB _ (List.mem_of_getElem? (i := 10) rfl)))
  obtain ⟨c3, i3, k3⟩ := u_known (C := RX3) (T := TX3) (N := 3) (n := 3) hts inX3 (hts _ (bv_zTB _ (List.mem_of_getElem? (i := 11) rfl)))
  obtain ⟨c4, i4, k4⟩ := u_known (C := RX4) (T := TX4) (N := 7) (n := 7) hts inX4 (hts _ (bv_zTB _ (List.mem_of_getElem? (i := 12) rfl)))
  obtain ⟨cI, hI1, hI2⟩ := bv_arr (hts _ (bv_zTB _ (List.mem_of_getElem? (i := 5) rfl)))
  obtain ⟨cJ, hJ1, hJ2⟩ := bv_arr (hts _ (bv_zTB _ (List.mem_of_getElem? (i := 6) rfl)))
  obtain ⟨cD, hD1, hD2⟩ := bv_arr (hts _ (bv_zTB _ (List.mem_of_getElem? (i := 7) rfl)))
  refine ⟨(fun k => match k with | 0 => c0 | 1 => c1 | 2 => c2 | 3 => c3 | _ => c4, fun k => match k with | 0 => i0 | 1 => i1 | 2 => i2 | 3 => i3 | _ => i4), cI, cJ, cD, ?_⟩
  have hkc : ∀ (k : Nat) (q : vw_C), vwCl[k]? = some q → u_Kn s q.1 q.2.1 q.2.2 (match k with | 0 => c0 | 1 => c1 | 2 => c2 | 3 => c3 | _ => c4) (match k with | 0 => i0 | 1 => i1 | 2 => i2 | 3 => i3 | _ => i4) := by
    intro k q hq
    match k, hq with
    | 0, hq => cases hq; exact k0
    | 1, hq => cases hq; exact k1
    | 2, hq => cases hq; exact k2
    | 3, hq => cases hq; exact k3
    | 4, hq => cases hq; exact k4
    | k + 5, hq => simp [vwCl] at hq
  refine ⟨⟨⟨hkc, fun k q hq => ?_⟩, fun q hq => va_Nw.of rfl (hts _ (bv_nwTB q hq))⟩, ⟨hkc, fun k q hq => ?_⟩, fun q hq => va_Nw.of rfl (hts _ (bv_castTB q hq)), fun q hq => va_Nc.of (hs _ (bv_ncOK q hq))⟩
  · match k, hq with
    | 0, hq => cases hq; exact ⟨hI1, hI2⟩
    | k + 1, hq => simp at hq
  · match k, hq with
    | 0, hq => cases hq; exact ⟨hJ1, hJ2⟩
    | 1, hq => cases hq; exact ⟨hD1, hD2⟩
    | k + 2, hq => simp at hq

