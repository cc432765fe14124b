/-! What throws: the strings, the words of a throw, the statics that a throw reads, the class's own static row. -/
def bv_strL : List (Nat × String) := [(72, "the kind is not 0 to 3"), (99, "the base has 10 sentences"), (112, "the base is empty"), (159, "the world is not 0 to 15"), (165, "the way is not 0 to 3"), (167, "the firmness is not 0 to 9"), (169, "the sentence can't be learned in this way"), (200, "the atom is not 0 to 3"), (202, "the rank is not 1 to 9"), (205, "the pile has 12 sentences"), (207, "the pile is empty"), (209, "the pile has fewer than two sentences"), (211, "the base has no such sentence"), (216, "the set has what is no sentence of the base"), (221, "there is none of this number")]
abbrev bv_nms : List String := ["java/lang/RuntimeException", "java/lang/Exception"]
def bv_excL : List (Nat × String) := [(161, "java/lang/IndexOutOfBoundsException"), (101, "java/lang/IllegalStateException"), (74, "java/lang/IllegalArgumentException")]
def bv_AW : Nat → Int32 := fun k => match k with
  | 0 => 43690
  | 1 => 52428
  | 2 => 61680
  | 3 => 65280
  | _ => 0
def bv_X (cI : ClassId) (U : State) (H : Heap) : Prop := (∀ q ∈ bv_strL, ∃ sa, vk_R RX3 q.1 q.2 sa U) ∧ (∀ q ∈ bv_excL, ∀ w ∈ (vx_atS RX3 q.1 q.2 bv_nms).filter (fun w => !goodWord w), va_Nw w U) ∧ vx_Zq Bundle.tN "UNASSIGNED_STACK" Bundle.steD (fun _ => False) U H ∧ vx_Zq Bundle.tN "SUPPRESSED_SENTINEL" Bundle.listD (fun _ => False) U H ∧ ∃ qA : Nat, va_Z RX3 "ATOM_WORLDS" "[I" (.ref qA) (fun _ => False) U H ∧ va_T .int qA 4 (fun j => .int (bv_AW j)) (fun _ => False) U H
def bv_cdw : Cond → Bool
  | .castable _ _ => true
  | .declares _ => true
  | _ => false
theorem bv_cdw_warm {w : Cond} (hw : bv_cdw w = true) {s U : State} (hW : s.WarmedH U.vm) (h : va_Nw w s) : va_Nw w U := by
  cases w <;> first | exact (Bool.false_ne_true hw).elim | exact va_Nw.warmC hW h | exact va_Nw.warmD hW h
theorem bv_cdw_all : ∀ q ∈ bv_excL, ∀ w ∈ (vx_atS RX3 q.1 q.2 bv_nms).filter (fun w => !goodWord w), bv_cdw w = true := by decide +kernel
theorem bv_cdw_on {w : Cond} (hw : bv_cdw w = true) : w.onTables = true := by
  cases w <;> first | exact (Bool.false_ne_true hw).elim | rfl
theorem bv_X.warm {cI : ClassId} {s U : State} {H : Heap} (hW : s.WarmedH U.vm) (h : bv_X cI s H) : bv_X cI U H := by
  obtain ⟨h1, h2, h3, h4, qA, h5, h6⟩ := h
  exact ⟨fun q hq => (h1 q hq).imp fun sa h => vk_R.warm hW h, fun q hq w hw => bv_cdw_warm (bv_cdw_all q hq w hw) hW (h2 q hq w hw), h3.moved hW.alike, h4.moved hW.alike, qA, h5.moved hW.alike, h6.moved hW.alike⟩
theorem bv_X.same {cI : ClassId} {u U : State} {H : Heap} (hv : u.vm = U.vm) (h : bv_X cI u H) : bv_X cI U H := by
  obtain ⟨h1, h2, h3, h4, qA, h5, h6⟩ := h
  have ha : u.vm.Alike U.vm := by rw [hv]; exact Vm.Alike.refl _
  exact ⟨fun q hq => (h1 q hq).imp fun sa h => vk_R.same hv.symm h, fun q hq w hw => va_Nw.same (bv_cdw_on (bv_cdw_all q hq w hw)) hv (h2 q hq w hw), h3.moved ha, h4.moved ha, qA, h5.moved ha, h6.moved ha⟩
def bv_PX (av : List Value) (G : va_G) (cI : ClassId) (B : Heap → Prop) : Array Value → State → Prop := va_Pc av (fun U => B U.heap ∧ bv_E G cI U ∧ bv_X cI U U.heap)
theorem bv_PX.blind {av : List Value} {G : va_G} {cI : ClassId} {B : Heap → Prop} : FrameBlind (bv_PX av G cI B) := fun a U g mk h => ⟨h.1, h.2.1, bv_E.same (u := U) rfl h.2.2.1, bv_X.same (u := U) rfl h.2.2.2⟩
theorem bv_pSX {av : List Value} {G : va_G} {cI : ClassId} {B : Heap → Prop} {s : State} {H : Heap} (hE : bv_E G cI s) (hX : bv_X cI s H) (hB : B H) : PreS s H (bv_PX av G cI B) av := ⟨bv_PX.blind, fun U hU hW => ⟨rfl, by rw [hU]; exact hB, bv_E.warm hW hE, by rw [hU]; exact bv_X.warm hW hX⟩⟩
theorem bv_pVX {b : Nat} {As : List Value} {G : va_G} {cI : ClassId} {B : Heap → Prop} {s : State} {H : Heap} {C : String} (hE : bv_E G cI s) (hX : bv_X cI s H) (hB : B H) (hrecv : ∃ cell : Cell, H[b]? = some cell ∧ cell.vm.isStatics = false ∧ s.vm.findClass C = some cell.cls) : PreV s H C b (bv_PX (.ref b :: As) G cI B) As := ⟨bv_PX.blind, hrecv, fun U hU hW => ⟨rfl, by rw [hU]; exact hB, bv_E.warm hW hE, by rw [hU]; exact bv_X.warm hW hX⟩⟩
def bv_PT (av : List Value) (G : va_G) (cI : ClassId) (q : Nat) : Array Value → State → Prop := va_Pc av (fun U => va_T .int q 4 (fun j => .int (bv_AW j)) (fun _ => False) U U.heap ∧ bv_E G cI U)
theorem bv_pST {av : List Value} {G : va_G} {cI : ClassId} {q : Nat} {s : State} (hE : bv_E G cI s) (hT : va_T .int q 4 (fun j => .int (bv_AW j)) (fun _ => False) s s.heap) : PreS s s.heap (bv_PT av G cI q) av := ⟨fun a U g mk h => ⟨h.1, va_T.moved (u := U) (Vm.Alike.refl U.vm) h.2.1, bv_E.same (u := U) rfl h.2.2⟩, fun U hU hW => ⟨rfl, by rw [hU]; exact hT.moved hW.alike, bv_E.warm hW hE⟩⟩
set_option maxHeartbeats 4000000 in
set_option maxRecDepth 100000 in
theorem m_X3_atT (l : Launch) (G : va_G) (cI : ClassId) (q : Nat) (i : Int32) : Met l yX3_at wsX3_at ({ frames := 0, cells := 0, slots := 0, locals := 0 }) (bv_PT [.ref q, .int i] G cI q) (vp_Si (fun r9 : Int32 => r9 = (bv_at 4 bv_AW i))) 0 0 (fun _ => False) := by
  refine Met.ofW (cc := cX3_at) (maxL := 2) (ret := (some .int)) (by decide) rfl ?_
  intro p e s m args below meth c s₁ B hml hv
  obtain ⟨rfl, hT, hE⟩ := hv
  have hx := B.exec
  have hb := B.bytes
  have hr := B.returns
  have hts := atoms_spec (ws := wsX3_at) B.pre
  have hown : s.vm.findClass RX3 = some m.cls := findClass_of_methodNamed B.named
  have hlocks := B.notSynchronized
  have hK := hE.1
  have hl := lv_entry ([.ref q, .int i]) (n := 2) (Nat.le_of_ble_eq_true rfl)
  rw [lg_entry_eq]
  generalize (lg_sl ([.ref q, .int i]) ++ List.replicate (2 - (lg_sl ([.ref q, .int i])).length) Slot.unset).toArray = ls at hl ⊢
  have hl : lv_has ls 2 [(0, .ref q), (1, .int i)] := hl
  refine lv_iload_n (pc := 0) hx hb dX3_at_0 rfl (lv_at hl 1 rfl) ?_
  refine lv_if_lt (pc := 1) (tgt := 16) hx hb dX3_at_1 (by decide) (fun c1_1 => ?_) (fun c1_1 => ?_)
  · have c1 := c1_1
    refine lv_iconst (pc := 16) (v := 0) hx hb dX3_at_16 (by decide) ?_
    exact W.iret (pc := 17) (v := 0) hx hb hr (fun T8 hT8 hW8 => ⟨0, rfl, (by rw [bv_at, if_neg (fun h => absurd (Int32.not_lt.mpr h.1) (not_not_intro c1))]), hT8⟩) (fun _ h => nomatch h) dX3_at_17
  · have c1 := c1_1
    refine lv_iload_n (pc := 4) hx hb dX3_at_4 rfl (lv_at hl 1 rfl) ?_
    refine lv_aload_n (pc := 5) hx hb dX3_at_5 rfl (lv_at hl 0 rfl) ?_
    refine va_tlen (pc := 6) (v := (nI 4)) hx hb hT va_S.rf rfl dX3_at_6 ?_
    refine lv_icmp_ge (pc := 7) (tgt := 16) hx hb dX3_at_7 (by decide) (fun c7_2 => ?_) (fun c7_2 => ?_)
    · have c2 := c7_2
      refine lv_iconst (pc := 16) (v := 0) hx hb dX3_at_16 (by decide) ?_
      exact W.iret (pc := 17) (v := 0) hx hb hr (fun T8 hT8 hW8 => ⟨0, rfl, (by rw [bv_at, if_neg (fun h => absurd (Int32.not_le.mpr h.2) (not_not_intro c2))]), hT8⟩) (fun _ h => nomatch h) dX3_at_17
    · have c2 := c7_2
      refine lv_aload_n (pc := 10) hx hb dX3_at_10 rfl (lv_at hl 0 rfl) ?_
      refine lv_iload_n (pc := 11) hx hb dX3_at_11 rfl (lv_at hl 1 rfl) ?_
      refine va_ti (pc := 12) hx hb hT va_S.rf (bv_in c1 c2 (by decide)) rfl dX3_at_12 ?_
      refine lv_goto (pc := 13) (tgt := 17) hx hb dX3_at_13 (by decide) ?_
      exact W.iret (pc := 17) (v := (bv_AW i.toNatClampNeg)) hx hb hr (fun T8 hT8 hW8 => ⟨(bv_AW i.toNatClampNeg), rfl, (by rw [bv_at, if_pos ⟨Int32.not_lt.mp c1, Int32.not_le.mp c2⟩]), hT8⟩) (fun _ h => nomatch h) dX3_at_17
section
variable {p : Program} {l : Launch} {e : Env} {R : Room} {s : State} {m : MethodId} {args : Array Value} {below : List Frame} {meth : Method} {c : Code} {cells slots : Nat} {pc : Nat} {ls : Array Slot} {rest st0 : List Value} {a : Array Value} {mc ms : Nat} {free : Addr → Prop} {Qc : Array Value → State → Outcome → State → Prop}
theorem bv_throw {cI : ClassId} {cc : ByteArray} {cls text : String} {ik is ic : Nat} {bad : String → Prop} (hx : p.tables.exec = Jvm.exec) (hb : c.code = cc) (hl : l.stackTraces = false) (hX : bv_X cI s s.heap) (hown : s.vm.findClass RX3 = some m.cls)
    (hk : (Cond.classLink RX3 ik cls).before args s = true) (hini : (Cond.initialized cls).before args s = true) (hstr : ∃ sa, vk_R RX3 is text sa s) (hnw : ∀ w ∈ (vx_atS RX3 ic cls bv_nms).filter (fun w => !goodWord w), va_Nw w s) (hgw : ∀ w ∈ (vx_atS RX3 ic cls bv_nms).filter goodWord, w.before args s = true)
    (hcls : Bundle.fit cls = true) (hnames : ∀ n ∈ bv_nms, Bundle.fit n = true) (hgood : ∀ w ∈ Cond.classLink RX3 ik cls :: Cond.initialized cls :: vx_atS RX3 ic cls bv_nms, vx_ot w = true) (hsize : ls.size = c.maxLocals)
    (d0 : decode cc pc = .ok (.new ik, 3)) (d3 : decode cc (pc + 3) = .ok (.dup, 1)) (d4 : decode cc (pc + 4) = .ok (.ldc is, 2)) (d6 : decode cc (pc + 6) = .ok (.invokespecial ic, 3)) (d9 : decode cc (pc + 9) = .ok (.athrow, 1)) (htab : ∀ x ∈ c.exceptionTable.toList, False)
    (hRf : bv_nms.length + 3 < R.frames) (hRl : (rest.map fun v => v.category).sum + (13 * (bv_nms.length + 1) + 43) ≤ R.locals) (hRc : cells + 1 ≤ R.cells) (hRs : slots + 6 ≤ R.slots) (hlocks : meth.locks = false) (hbad : bad cls) (hc : cells + 1 ≤ mc) (hs : slots + 6 ≤ ms) :
    W p l e R s m args below meth c s.heap [] cells slots (vx_MQ below Qc (vx_X (fun _ : Unit => True) (fun X _ _ => bad X) (fun _ => False)) args s mc ms free) (F0 m pc ls rest) := by
  obtain ⟨sa, hstr⟩ := hstr
  refine vx_throwS (A := fun _ => False) hx hb hl hown hcls hnames hk hini hstr ?_ hgood hX.2.2.1 hX.2.2.2.1 va_S.rf hsize d0 d3 d4 d6 d9 (fun x h => (htab x h).elim) hRf hRl hRc hRs hlocks (fun t _ hz hq => ⟨(), trivial, hbad, hz, fun q h1 _ => hq q h1⟩) (fun _ h => nomatch h) hc hs
  intro w hw
  by_cases g : goodWord w = true
  · exact hgw w (List.mem_filter.mpr ⟨hw, g⟩)
  · have h1 : vx_ot w = true := hgood w (List.mem_cons_of_mem _ (List.mem_cons_of_mem _ hw))
    have h2 : w.onTables = true := by
      simp only [vx_ot, Bool.or_eq_true] at h1
      exact h1.resolve_right g
    refine va_Nw.use h2 (hnw w (List.mem_filter.mpr ⟨hw, ?_⟩))
    simp [g]
theorem bv_cXi {E E' : Int32} {ok : Prop} {bad bad' : String → Prop} {mc1 ms1 : Nat} (hr : vx_Run p l e R s m args below meth c s.heap [] cells slots mc1 ms1 (F0 m pc ls st0) rest (va_Qi (fun (r9 : Int32) (_ : Unit) => r9 = E ∧ ok) (fun _ (T9 : State) => T9.heap = s.heap) (fun _ => False) a) (vx_X (fun _ : Unit => True) (fun X _ _ => bad X) (fun _ => False)) (fun _ => False)) (htab : ∀ x ∈ c.exceptionTable.toList, False) (hlocks : meth.locks = false) (hbad : ∀ X, bad X → bad' X) (hc : cells + mc1 ≤ mc) (hs : slots + ms1 ≤ ms) (he : E = E') 
    (kk : ok → W p l e R s m args below meth c s.heap [] (cells + mc1) (slots + ms1) (vx_MQ below Qc (vx_X (fun _ : Unit => True) (fun X _ _ => bad' X) (fun _ => False)) args s mc ms free) (F0 m (pc + 3) ls (.int E' :: rest))) : W p l e R s m args below meth c s.heap [] cells slots (vx_MQ below Qc (vx_X (fun _ : Unit => True) (fun X _ _ => bad' X) (fun _ => False)) args s mc ms free) (F0 m pc ls st0) := by
  refine vx_calli (A0 := fun _ => False) hr va_S.rf (fun _ _ h => h) (fun _ h => h) (fun _ _ h => h) (fun X ce q9 u t H1 locs1 h1 h2 h h4 h5 h6 h7 h8 h9 h10 => ?_) (fun r u t H1 locs1 h1 h2 h h4 h5 h6 h7 => ?_)
  · refine vx_out (fun x hx => (htab x hx).elim) hlocks h8 h9 h10 (fun t2 ht2 _ => ⟨(), trivial, hbad X h4, ?_, fun q hq _ => ?_⟩) (fun z hz => (h7.2.2 z hz).elim) hc hs
    · rw [ht2]; exact h7.1
    · rw [ht2]; exact h7.2.1 q hq (fun h => h)
  · have e1 : H1 = s.heap := h1.symm.trans h4
    have h3 : r = E ∧ ok := h
    obtain ⟨h8, h9⟩ := h3
    subst he; subst h8
    rw [e1]
    exact va_forget (fun q hq => (h7.2.2 q hq).elim) (kk h9)
theorem bv_cXl {E E' : Int64} {ok : Prop} {bad bad' : String → Prop} {mc1 ms1 : Nat} (hr : vx_Run p l e R s m args below meth c s.heap [] cells slots mc1 ms1 (F0 m pc ls st0) rest (va_Ql (fun (r9 : Int64) (_ : Unit) => r9 = E ∧ ok) (fun _ (T9 : State) => T9.heap = s.heap) (fun _ => False) a) (vx_X (fun _ : Unit => True) (fun X _ _ => bad X) (fun _ => False)) (fun _ => False)) (htab : ∀ x ∈ c.exceptionTable.toList, False) (hlocks : meth.locks = false) (hbad : ∀ X, bad X → bad' X) (hc : cells + mc1 ≤ mc) (hs : slots + ms1 ≤ ms) (he : E = E') 
    (kk : ok → W p l e R s m args below meth c s.heap [] (cells + mc1) (slots + ms1) (vx_MQ below Qc (vx_X (fun _ : Unit => True) (fun X _ _ => bad' X) (fun _ => False)) args s mc ms free) (F0 m (pc + 3) ls (.long E' :: rest))) : W p l e R s m args below meth c s.heap [] cells slots (vx_MQ below Qc (vx_X (fun _ : Unit => True) (fun X _ _ => bad' X) (fun _ => False)) args s mc ms free) (F0 m pc ls st0) := by
  refine vx_calll (A0 := fun _ => False) hr va_S.rf (fun _ _ h => h) (fun _ h => h) (fun _ _ h => h) (fun X ce q9 u t H1 locs1 h1 h2 h h4 h5 h6 h7 h8 h9 h10 => ?_) (fun r u t H1 locs1 h1 h2 h h4 h5 h6 h7 => ?_)
  · refine vx_out (fun x hx => (htab x hx).elim) hlocks h8 h9 h10 (fun t2 ht2 _ => ⟨(), trivial, hbad X h4, ?_, fun q hq _ => ?_⟩) (fun z hz => (h7.2.2 z hz).elim) hc hs
    · rw [ht2]; exact h7.1
    · rw [ht2]; exact h7.2.1 q hq (fun h => h)
  · have e1 : H1 = s.heap := h1.symm.trans h4
    have h3 : r = E ∧ ok := h
    obtain ⟨h8, h9⟩ := h3
    subst he; subst h8
    rw [e1]
    exact va_forget (fun q hq => (h7.2.2 q hq).elim) (kk h9)
theorem bv_cXd {E E' : UInt64} {ok : Prop} {bad bad' : String → Prop} {mc1 ms1 : Nat} (hr : vx_Run p l e R s m args below meth c s.heap [] cells slots mc1 ms1 (F0 m pc ls st0) rest (va_Qd (fun (r9 : UInt64) (_ : Unit) => r9 = E ∧ ok) (fun _ (T9 : State) => T9.heap = s.heap) (fun _ => False) a) (vx_X (fun _ : Unit => True) (fun X _ _ => bad X) (fun _ => False)) (fun _ => False)) (htab : ∀ x ∈ c.exceptionTable.toList, False) (hlocks : meth.locks = false) (hbad : ∀ X, bad X → bad' X) (hc : cells + mc1 ≤ mc) (hs : slots + ms1 ≤ ms) (he : E = E') 
    (kk : ok → W p l e R s m args below meth c s.heap [] (cells + mc1) (slots + ms1) (vx_MQ below Qc (vx_X (fun _ : Unit => True) (fun X _ _ => bad' X) (fun _ => False)) args s mc ms free) (F0 m (pc + 3) ls (.double E' :: rest))) : W p l e R s m args below meth c s.heap [] cells slots (vx_MQ below Qc (vx_X (fun _ : Unit => True) (fun X _ _ => bad' X) (fun _ => False)) args s mc ms free) (F0 m pc ls st0) := by
  refine vx_calld (A0 := fun _ => False) hr va_S.rf (fun _ _ h => h) (fun _ h => h) (fun _ _ h => h) (fun X ce q9 u t H1 locs1 h1 h2 h h4 h5 h6 h7 h8 h9 h10 => ?_) (fun r u t H1 locs1 h1 h2 h h4 h5 h6 h7 => ?_)
  · refine vx_out (fun x hx => (htab x hx).elim) hlocks h8 h9 h10 (fun t2 ht2 _ => ⟨(), trivial, hbad X h4, ?_, fun q hq _ => ?_⟩) (fun z hz => (h7.2.2 z hz).elim) hc hs
    · rw [ht2]; exact h7.1
    · rw [ht2]; exact h7.2.1 q hq (fun h => h)
  · have e1 : H1 = s.heap := h1.symm.trans h4
    have h3 : r = E ∧ ok := h
    obtain ⟨h8, h9⟩ := h3
    subst he; subst h8
    rw [e1]
    exact va_forget (fun q hq => (h7.2.2 q hq).elim) (kk h9)
theorem bv_cXv {ok : Prop} {bad bad' : String → Prop} {mc1 ms1 : Nat} (hr : vx_Run p l e R s m args below meth c s.heap [] cells slots mc1 ms1 (F0 m pc ls st0) rest (va_Qv (fun _ : Unit => ok) (fun _ (T9 : State) => T9.heap = s.heap) (fun _ => False) a) (vx_X (fun _ : Unit => True) (fun X _ _ => bad X) (fun _ => False)) (fun _ => False)) (htab : ∀ x ∈ c.exceptionTable.toList, False) (hlocks : meth.locks = false) (hbad : ∀ X, bad X → bad' X) (hc : cells + mc1 ≤ mc) (hs : slots + ms1 ≤ ms) 
    (kk : ok → W p l e R s m args below meth c s.heap [] (cells + mc1) (slots + ms1) (vx_MQ below Qc (vx_X (fun _ : Unit => True) (fun X _ _ => bad' X) (fun _ => False)) args s mc ms free) (F0 m (pc + 3) ls rest)) : W p l e R s m args below meth c s.heap [] cells slots (vx_MQ below Qc (vx_X (fun _ : Unit => True) (fun X _ _ => bad' X) (fun _ => False)) args s mc ms free) (F0 m pc ls st0) := by
  refine vx_callv (A0 := fun _ => False) hr va_S.rf (fun _ _ h => h) (fun _ h => h) (fun _ _ h => h) (fun X ce q9 u t H1 locs1 h1 h2 h h4 h5 h6 h7 h8 h9 h10 => ?_) (fun u t H1 locs1 h1 h2 h h4 h5 h6 h7 => ?_)
  · refine vx_out (fun x hx => (htab x hx).elim) hlocks h8 h9 h10 (fun t2 ht2 _ => ⟨(), trivial, hbad X h4, ?_, fun q hq _ => ?_⟩) (fun z hz => (h7.2.2 z hz).elim) hc hs
    · rw [ht2]; exact h7.1
    · rw [ht2]; exact h7.2.1 q hq (fun h => h)
  · have e1 : H1 = s.heap := h1.symm.trans h4
    have h9 : ok := h
    rw [e1]
    exact va_forget (fun q hq => (h7.2.2 q hq).elim) (kk h9)
end

