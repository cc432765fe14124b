/-! The class's static row, the script: what a contract may take as given of them. -/
def bv_AW : Nat → Int32 := fun k => match k with
  | 0 => 43690
  | 1 => 52428
  | 2 => 61680
  | 3 => 65280
  | _ => 0
def bv_XA (A : Nat → Prop) (U : State) (H : Heap) : Prop := ∃ qA : Nat, va_Z RX3 "ATOM_WORLDS" "[I" (.ref qA) A U H ∧ va_T .int qA 4 (fun j => .int (bv_AW j)) A U H
theorem bv_XA.moved {A : Nat → Prop} {s U : State} {H : Heap} (hv : s.vm.Alike U.vm) (h : bv_XA A s H) : bv_XA A U H := by
  obtain ⟨qA, h5, h6⟩ := h
  exact ⟨qA, h5.moved hv, h6.moved hv⟩
theorem bv_XA.narrow {A B : Nat → Prop} {s : State} {H : Heap} (h : bv_XA A s H) (hAB : ∀ q, B q → A q) : bv_XA B s H := by
  obtain ⟨qA, h5, h6⟩ := h
  exact ⟨qA, h5.narrow hAB, h6.narrow hAB⟩
theorem bv_XA.kept {A : Nat → Prop} {s : State} {H H1 : Heap} (h : bv_XA A s H) (hq : ∀ a : Nat, a < H.size → ¬ A a → H1[a]? = H[a]?) : bv_XA A s H1 := by
  obtain ⟨qA, h5, h6⟩ := h
  exact ⟨qA, h5.kept hq, h6.kept hq⟩
def bv_PS (av : List Value) (G : va_G) (cI : ClassId) (A : Nat → Prop) (B : Heap → Prop) : Array Value → State → Prop := va_Pc av (fun U => B U.heap ∧ bv_E G cI U ∧ bv_XA A U U.heap)
theorem bv_PS.blind {av : List Value} {G : va_G} {cI : ClassId} {A : Nat → Prop} {B : Heap → Prop} : FrameBlind (bv_PS av G cI A B) := fun a U g mk h => ⟨h.1, h.2.1, bv_E.same (u := U) rfl h.2.2.1, bv_XA.moved (s := U) (Vm.Alike.refl U.vm) h.2.2.2⟩
theorem bv_pSS {av : List Value} {G : va_G} {cI : ClassId} {A : Nat → Prop} {B : Heap → Prop} {s : State} {H : Heap} (hE : bv_E G cI s) (hX : bv_XA A s H) (hB : B H) : PreS s H (bv_PS av G cI A B) av := ⟨bv_PS.blind, fun U hU hW => ⟨rfl, by rw [hU]; exact hB, bv_E.warm hW hE, by rw [hU]; exact hX.moved hW.alike⟩⟩
theorem bv_pVS {b : Nat} {As : List Value} {G : va_G} {cI : ClassId} {A : Nat → Prop} {B : Heap → Prop} {s : State} {H : Heap} {C : String} (hE : bv_E G cI s) (hX : bv_XA A s H) (hB : B H) (hrecv : ∃ cell : Cell, H[b]? = some cell ∧ cell.vm.isStatics = false ∧ s.vm.findClass C = some cell.cls) : PreV s H C b (bv_PS (.ref b :: As) G cI A B) As := ⟨bv_PS.blind, hrecv, fun U hU hW => ⟨rfl, by rw [hU]; exact hB, bv_E.warm hW hE, by rw [hU]; exact hX.moved hW.alike⟩⟩
def bv_PB (av : List Value) (G : va_G) (cI : ClassId) (b L : Nat) (xs : Nat → Int32) (A : Nat → Prop) (B : Heap → Prop) : Array Value → State → Prop := va_Pc av (fun U => B U.heap ∧ bv_E G cI U ∧ bv_XA A U U.heap ∧ va_X b L xs U U.heap)
theorem bv_PB.blind {av : List Value} {G : va_G} {cI : ClassId} {b L : Nat} {xs : Nat → Int32} {A : Nat → Prop} {B : Heap → Prop} : FrameBlind (bv_PB av G cI b L xs A B) := fun a U g mk h => ⟨h.1, h.2.1, bv_E.same (u := U) rfl h.2.2.1, bv_XA.moved (s := U) (Vm.Alike.refl U.vm) h.2.2.2.1, va_X.moved (u := U) (Vm.Alike.refl U.vm) h.2.2.2.2⟩
theorem bv_pSB {av : List Value} {G : va_G} {cI : ClassId} {b L : Nat} {xs : Nat → Int32} {A : Nat → Prop} {B : Heap → Prop} {s : State} {H : Heap} (hE : bv_E G cI s) (hX : bv_XA A s H) (h9 : va_X b L xs s H) (hB : B H) : PreS s H (bv_PB av G cI b L xs A B) av := ⟨bv_PB.blind, fun U hU hW => ⟨rfl, by rw [hU]; exact hB, bv_E.warm hW hE, by rw [hU]; exact hX.moved hW.alike, by rw [hU]; exact h9.moved hW.alike⟩⟩
def bv_PC (av : List Value) (G : va_G) (cI : ClassId) (b L : Nat) (xs : Nat → Int32) : Array Value → State → Prop := va_Pc av (fun U => va_X b L xs U U.heap ∧ b < U.heap.size ∧ bv_E G cI U)
theorem bv_PC.blind {av : List Value} {G : va_G} {cI : ClassId} {b L : Nat} {xs : Nat → Int32} : FrameBlind (bv_PC av G cI b L xs) := fun a U g mk h => ⟨h.1, va_X.moved (u := U) (Vm.Alike.refl U.vm) h.2.1, h.2.2.1, bv_E.same (u := U) rfl h.2.2.2⟩
theorem bv_pSC {av : List Value} {G : va_G} {cI : ClassId} {b L : Nat} {xs : Nat → Int32} {s : State} {H : Heap} (hE : bv_E G cI s) (h9 : va_X b L xs s H) (hbl : b < H.size) : PreS s H (bv_PC av G cI b L xs) av := ⟨bv_PC.blind, fun U hU hW => ⟨rfl, by rw [hU]; exact h9.moved hW.alike, by rw [hU]; exact hbl, bv_E.warm hW hE⟩⟩
def bv_Sv : Array Value → State → Outcome → State → Prop := fun _ st o t => o = .returned none ∧ t.heap = st.heap
section
variable {p : Program} {l : Launch} {e : Env} {R : Room} {s : State} {m : MethodId} {args : Array Value} {below : List Frame} {meth : Method} {c : Code} {H : Heap} {locs : List Loc} {cells slots : Nat} {Q : State → Prop} {pc : Nat} {ls : Array Slot} {rest st0 : List Value} {a : Array Value}
theorem bv_cSv (hr : va_Run p l e R s m args below meth c H locs cells slots 0 0 (F0 m pc ls st0) rest (bv_Sv a) (fun _ => False)) (kk : W p l e R s m args below meth c H locs cells slots Q (F0 m (pc + 3) ls rest)) : W p l e R s m args below meth c H locs cells slots Q (F0 m pc ls st0) := by
  intro T hT X
  obtain ⟨v, st₀, t, T', L, h0, X', hL, e1, ⟨hv, hh⟩, st⟩ := va_Run.run hr T hT X
  cases hv
  obtain ⟨t2, a1, b1⟩ := kk T' (by rw [e1, hh, h0]) (Stand.forget X' (fun q h => (hL q h).elim))
  exact ⟨t2, st t2 a1, b1⟩
end
def bv_PT (av : List Value) (G : va_G) (cI : ClassId) (q : Nat) : Array Value → State → Prop := va_Pc av (fun U => va_T .int q 4 (fun j => .int (bv_AW j)) (fun _ => False) U U.heap ∧ bv_E G cI U)
theorem bv_pST {av : List Value} {G : va_G} {cI : ClassId} {q : Nat} {s : State} (hE : bv_E G cI s) (hT : va_T .int q 4 (fun j => .int (bv_AW j)) (fun _ => False) s s.heap) : PreS s s.heap (bv_PT av G cI q) av := ⟨fun a U g mk h => ⟨h.1, va_T.moved (u := U) (Vm.Alike.refl U.vm) h.2.1, bv_E.same (u := U) rfl h.2.2⟩, fun U hU hW => ⟨rfl, by rw [hU]; exact hT.moved hW.alike, bv_E.warm hW hE⟩⟩
set_option maxHeartbeats 4000000 in
set_option maxRecDepth 100000 in
theorem m_X3_atT (l : Launch) (G : va_G) (cI : ClassId) (q : Nat) (i : Int32) : Met l yX3_at wsX3_at ({ frames := 0, cells := 0, slots := 0, locals := 0 }) (bv_PT [.ref q, .int i] G cI q) (vp_Si (fun r9 : Int32 => r9 = (bv_at 4 bv_AW i))) 0 0 (fun _ => False) := by
  refine Met.ofW (cc := cX3_at) (maxL := 2) (ret := (some .int)) (by decide) rfl ?_
  intro p e s m args below meth c s₁ B hml hv
  obtain ⟨rfl, hT, hE⟩ := hv
  have hx := B.exec
  have hb := B.bytes
  have hr := B.returns
  have hts := atoms_spec (ws := wsX3_at) B.pre
  have hown : s.vm.findClass RX3 = some m.cls := findClass_of_methodNamed B.named
  have hlocks := B.notSynchronized
  have hK := hE.1
  have hl := lv_entry ([.ref q, .int i]) (n := 2) (Nat.le_of_ble_eq_true rfl)
  rw [lg_entry_eq]
  generalize (lg_sl ([.ref q, .int i]) ++ List.replicate (2 - (lg_sl ([.ref q, .int i])).length) Slot.unset).toArray = ls at hl ⊢
  have hl : lv_has ls 2 [(0, .ref q), (1, .int i)] := hl
  refine lv_iload_n (pc := 0) hx hb dX3_at_0 rfl (lv_at hl 1 rfl) ?_
  refine lv_if_lt (pc := 1) (tgt := 16) hx hb dX3_at_1 (by decide) (fun c1_1 => ?_) (fun c1_1 => ?_)
  · have c1 := c1_1
    refine lv_iconst (pc := 16) (v := 0) hx hb dX3_at_16 (by decide) ?_
    exact W.iret (pc := 17) (v := 0) hx hb hr (fun T8 hT8 hW8 => ⟨0, rfl, (by rw [bv_at, if_neg (fun h => absurd (Int32.not_lt.mpr h.1) (not_not_intro c1))]), hT8⟩) (fun _ h => nomatch h) dX3_at_17
  · have c1 := c1_1
    refine lv_iload_n (pc := 4) hx hb dX3_at_4 rfl (lv_at hl 1 rfl) ?_
    refine lv_aload_n (pc := 5) hx hb dX3_at_5 rfl (lv_at hl 0 rfl) ?_
    refine va_tlen (pc := 6) (v := (nI 4)) hx hb hT va_S.rf rfl dX3_at_6 ?_
    refine lv_icmp_ge (pc := 7) (tgt := 16) hx hb dX3_at_7 (by decide) (fun c7_2 => ?_) (fun c7_2 => ?_)
    · have c2 := c7_2
      refine lv_iconst (pc := 16) (v := 0) hx hb dX3_at_16 (by decide) ?_
      exact W.iret (pc := 17) (v := 0) hx hb hr (fun T8 hT8 hW8 => ⟨0, rfl, (by rw [bv_at, if_neg (fun h => absurd (Int32.not_le.mpr h.2) (not_not_intro c2))]), hT8⟩) (fun _ h => nomatch h) dX3_at_17
    · have c2 := c7_2
      refine lv_aload_n (pc := 10) hx hb dX3_at_10 rfl (lv_at hl 0 rfl) ?_
      refine lv_iload_n (pc := 11) hx hb dX3_at_11 rfl (lv_at hl 1 rfl) ?_
      refine va_ti (pc := 12) hx hb hT va_S.rf (bv_in c1 c2 (by decide)) rfl dX3_at_12 ?_
      refine lv_goto (pc := 13) (tgt := 17) hx hb dX3_at_13 (by decide) ?_
      exact W.iret (pc := 17) (v := (bv_AW i.toNatClampNeg)) hx hb hr (fun T8 hT8 hW8 => ⟨(bv_AW i.toNatClampNeg), rfl, (by rw [bv_at, if_pos ⟨Int32.not_lt.mp c1, Int32.not_le.mp c2⟩]), hT8⟩) (fun _ h => nomatch h) dX3_at_17

