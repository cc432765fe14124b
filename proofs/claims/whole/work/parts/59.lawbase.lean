/-! What the law's own methods take beside: the classes of the long and double rows, which throwables are castable. -/
def bv_excN : List String := ["java/lang/IndexOutOfBoundsException", "java/lang/IllegalStateException", "java/lang/IllegalArgumentException"]
def bv_ncL : List (String × String) := [("java/lang/IndexOutOfBoundsException", "java/lang/IllegalStateException"), ("java/lang/IndexOutOfBoundsException", "java/lang/IllegalArgumentException"), ("java/lang/IllegalStateException", "java/lang/IndexOutOfBoundsException"), ("java/lang/IllegalStateException", "java/lang/IllegalArgumentException"), ("java/lang/IllegalArgumentException", "java/lang/IndexOutOfBoundsException"), ("java/lang/IllegalArgumentException", "java/lang/IllegalStateException")]
def bv_L (G : va_G) (cJ cD : ClassId) (U : State) : Prop := va_K G vwCl [(cJ, .long), (cD, .double)] U ∧ (∀ q ∈ bv_excN, va_Nw (.castable q q) U) ∧ ∀ q ∈ bv_ncL, va_Nc q.1 q.2 U
theorem bv_L.warm {G : va_G} {cJ cD : ClassId} {s U : State} (hW : s.WarmedH U.vm) (h : bv_L G cJ cD s) : bv_L G cJ cD U := ⟨va_K.moved hW.alike h.1, fun q hq => va_Nw.warmC hW (h.2.1 q hq), fun q hq => va_Nc.moved hW.alike (h.2.2 q hq)⟩
theorem bv_L.same {G : va_G} {cJ cD : ClassId} {u U : State} (hv : u.vm = U.vm) (h : bv_L G cJ cD u) : bv_L G cJ cD U := by
  have ha : u.vm.Alike U.vm := by rw [hv]; exact Vm.Alike.refl _
  exact ⟨va_K.moved ha h.1, fun q hq => va_Nw.same rfl hv (h.2.1 q hq), fun q hq => va_Nc.moved ha (h.2.2 q hq)⟩
def bv_PL (av : List Value) (G : va_G) (cI cJ cD : ClassId) (B : Heap → Prop) : Array Value → State → Prop := va_Pc av (fun U => B U.heap ∧ bv_E G cI U ∧ bv_X cI U U.heap ∧ bv_L G cJ cD U)
theorem bv_PL.blind {av : List Value} {G : va_G} {cI cJ cD : ClassId} {B : Heap → Prop} : FrameBlind (bv_PL av G cI cJ cD B) := fun a U g mk h => ⟨h.1, h.2.1, bv_E.same (u := U) rfl h.2.2.1, bv_X.same (u := U) rfl h.2.2.2.1, bv_L.same (u := U) rfl h.2.2.2.2⟩
theorem bv_pSL {av : List Value} {G : va_G} {cI cJ cD : ClassId} {B : Heap → Prop} {s : State} {H : Heap} (hE : bv_E G cI s) (hX : bv_X cI s H) (hL : bv_L G cJ cD s) (hB : B H) : PreS s H (bv_PL av G cI cJ cD B) av := ⟨bv_PL.blind, fun U hU hW => ⟨rfl, by rw [hU]; exact hB, bv_E.warm hW hE, by rw [hU]; exact bv_X.warm hW hX, bv_L.warm hW hL⟩⟩
theorem bv_in01 : vp_in 0 1 := by unfold vp_in; decide

