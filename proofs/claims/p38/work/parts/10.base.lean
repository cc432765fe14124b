abbrev vwCl : List vw_C := [(RX0, TX0, 4), (RX1, TX1, 2), (RX2, TX2, 2), (RX3, TX3, 3)]
/-! What every contract takes as given of the tables: the classes, the int arrays' class, the nest mates' links. -/
def bv_nwL : List (String × Nat × MethodName) := [(RX3, 11, yX2_init), (RX3, 25, yX1_init), (RX0, 26, yX3_put), (RX0, 30, yX3_at), (RX0, 48, yX3_has), (RX0, 56, yX3_not), (RX1, 18, yX3_at), (RX1, 27, yX3_has), (RX1, 54, yX3_not), (RX2, 23, yX3_put), (RX2, 40, yX3_at)]
def bv_NW (U : State) : Prop := ∀ q ∈ bv_nwL, va_Nw (.methodLinkNest q.1 q.2.1 q.2.2 RX3) U
def bv_E (G : va_G) (cI : ClassId) (U : State) : Prop := va_K G vwCl [(cI, .int)] U ∧ bv_NW U
theorem bv_E.warm {G : va_G} {cI : ClassId} {s U : State} (hW : s.WarmedH U.vm) (h : bv_E G cI s) : bv_E G cI U := ⟨va_K.moved hW.alike h.1, fun q hq => va_Nw.warmM hW (h.2 q hq)⟩
theorem bv_E.same {G : va_G} {cI : ClassId} {u U : State} (hv : u.vm = U.vm) (h : bv_E G cI u) : bv_E G cI U := ⟨va_K.moved (by rw [hv]; exact Vm.Alike.refl _) h.1, fun q hq => va_Nw.same rfl hv (h.2 q hq)⟩
def bv_P (av : List Value) (G : va_G) (cI : ClassId) (B : Heap → Prop) : Array Value → State → Prop := va_Pc av (fun U => B U.heap ∧ bv_E G cI U)
theorem bv_P.blind {av : List Value} {G : va_G} {cI : ClassId} {B : Heap → Prop} : FrameBlind (bv_P av G cI B) := fun a U g mk h => ⟨h.1, h.2.1, bv_E.same rfl h.2.2⟩
theorem bv_pS {av : List Value} {G : va_G} {cI : ClassId} {B : Heap → Prop} {s : State} {H : Heap} (hE : bv_E G cI s) (hB : B H) : PreS s H (bv_P av G cI B) av := ⟨bv_P.blind, fun U hU hW => ⟨rfl, by rw [hU]; exact hB, bv_E.warm hW hE⟩⟩
theorem bv_pV {b : Nat} {As : List Value} {G : va_G} {cI : ClassId} {B : Heap → Prop} {s : State} {H : Heap} {C : String} (hE : bv_E G cI s) (hB : B H) (hrecv : ∃ cell : Cell, H[b]? = some cell ∧ cell.vm.isStatics = false ∧ s.vm.findClass C = some cell.cls) : PreV s H C b (bv_P (.ref b :: As) G cI B) As := ⟨bv_P.blind, hrecv, fun U hU hW => ⟨rfl, by rw [hU]; exact hB, bv_E.warm hW hE⟩⟩
/-- cells written at the same addresses are apart as they were -/
theorem bv_Dm {A : Nat → Prop} {w0 w1 : va_W} (as : List Nat) (hm1 : w1.map Prod.fst = as) (hm0 : w0.map Prod.fst = as) (h : va_D A w0) : va_D A w1 := by
  have hm : w1.map Prod.fst = w0.map Prod.fst := hm1.trans hm0.symm
  have key : ∀ (k : Nat) (q : Nat × va_E), w1[k]? = some q → ∃ q0, w0[k]? = some q0 ∧ q0.1 = q.1 := by
    intro k q hq
    have h1 : (w1.map Prod.fst)[k]? = some q.1 := by rw [List.getElem?_map, hq]; rfl
    rw [hm, List.getElem?_map] at h1
    cases h0 : w0[k]? with
    | none => rw [h0] at h1; cases h1
    | some q0 => rw [h0] at h1; exact ⟨q0, rfl, Option.some.inj h1⟩
  refine ⟨fun i j p q hp hq e => ?_, fun k q hq => ?_⟩
  · obtain ⟨p0, hp0, ep⟩ := key i p hp
    obtain ⟨q0, hq0, eq⟩ := key j q hq
    exact h.1 i j p0 q0 hp0 hq0 (by rw [ep, eq, e])
  · obtain ⟨q0, hq0, eq⟩ := key k q hq
    rw [← eq]; exact h.2 k q0 hq0
theorem bv_hP {G : va_G} {cl : List vw_C} {W : va_W} {H : Heap} {t : State} (ht : t.heap = H) (h : va_P G cl W H) : va_P G cl W t.heap := by rw [ht]; exact h
/-- a truth value as the machine has it -/
def bv_b (b : Bool) : Int32 := if b then 1 else 0
theorem bv_b0 {b : Bool} : bv_b b = 0 ↔ b = false := by cases b <;> decide
theorem bv_b1 {b : Bool} : ¬ bv_b b = 0 ↔ b = true := by cases b <;> decide
theorem bv_nz (b : Bool) : narrow .boolean (.int (bv_b b)) = .int (bv_b b) := by cases b <;> rfl
section
variable {p : Program} {l : Launch} {e : Env} {R : Room} {s : State} {m : MethodId} {args : Array Value} {below : List Frame} {meth : Method} {c : Code} {H : Heap} {locs : List Loc} {cells slots : Nat} {Q : State → Prop} {pc : Nat} {ls : Array Slot} {rest st0 : List Value} {a : Array Value} {A0 A1 : Nat → Prop} {H0 : Heap} {mc ms : Nat} {free : Addr → Prop}
theorem bv_cSi {E E' : Int32} (hr : va_Run p l e R s m args below meth c H locs cells slots 0 0 (F0 m pc ls st0) rest (vp_Si (fun r9 : Int32 => r9 = E) a) (fun _ => False)) (he : E = E') (kk : W p l e R s m args below meth c H locs cells slots Q (F0 m (pc + 3) ls (.int E' :: rest))) : W p l e R s m args below meth c H locs cells slots Q (F0 m pc ls st0) := vp_callSi (va_Run.run hr) (fun r h => by have h : r = E := h; subst he; subst h; exact kk)
theorem bv_cMi {E E' : Int32} {B : State → Prop} (hr : va_Run p l e R s m args below meth c H locs cells slots mc ms (F0 m pc ls st0) rest (va_Qi (fun (r9 : Int32) (_ : Unit) => r9 = E) (fun _ t => B t) A1 a) free) (hS : va_S A0 H0 H locs) (hA : ∀ q, q < H.size → A1 q → A0 q) (hf : ∀ q, free q → A0 q) (he : E = E')
    (kk : ∀ (t : State) (H1 : Heap) (locs1 : List Loc), t.heap = H1 → s.vm.Alike t.vm → B t → H.size ≤ H1.size → (∀ q : Nat, q < H.size → ¬ A1 q → H1[q]? = H[q]?) → va_S A0 H0 H1 locs1 → W p l e R s m args below meth c H1 locs1 (cells + mc) (slots + ms) Q (F0 m (pc + 3) ls (.int E' :: rest))) : W p l e R s m args below meth c H locs cells slots Q (F0 m pc ls st0) :=
  va_calli hr hS hA hf (fun r u t H1 locs1 h1 h2 h h4 h5 h6 h7 => by have h : r = E := h; subst he; subst h; exact kk t H1 locs1 h1 h2 h4 h5 h6 h7)
theorem bv_cSl {E E' : Int64} (hr : va_Run p l e R s m args below meth c H locs cells slots 0 0 (F0 m pc ls st0) rest (vp_Sl (fun r9 : Int64 => r9 = E) a) (fun _ => False)) (he : E = E') (kk : W p l e R s m args below meth c H locs cells slots Q (F0 m (pc + 3) ls (.long E' :: rest))) : W p l e R s m args below meth c H locs cells slots Q (F0 m pc ls st0) := vp_callSl (va_Run.run hr) (fun r h => by have h : r = E := h; subst he; subst h; exact kk)
theorem bv_cMl {E E' : Int64} {B : State → Prop} (hr : va_Run p l e R s m args below meth c H locs cells slots mc ms (F0 m pc ls st0) rest (va_Ql (fun (r9 : Int64) (_ : Unit) => r9 = E) (fun _ t => B t) A1 a) free) (hS : va_S A0 H0 H locs) (hA : ∀ q, q < H.size → A1 q → A0 q) (hf : ∀ q, free q → A0 q) (he : E = E')
    (kk : ∀ (t : State) (H1 : Heap) (locs1 : List Loc), t.heap = H1 → s.vm.Alike t.vm → B t → H.size ≤ H1.size → (∀ q : Nat, q < H.size → ¬ A1 q → H1[q]? = H[q]?) → va_S A0 H0 H1 locs1 → W p l e R s m args below meth c H1 locs1 (cells + mc) (slots + ms) Q (F0 m (pc + 3) ls (.long E' :: rest))) : W p l e R s m args below meth c H locs cells slots Q (F0 m pc ls st0) :=
  va_calll hr hS hA hf (fun r u t H1 locs1 h1 h2 h h4 h5 h6 h7 => by have h : r = E := h; subst he; subst h; exact kk t H1 locs1 h1 h2 h4 h5 h6 h7)
theorem bv_cSd {E E' : UInt64} (hr : va_Run p l e R s m args below meth c H locs cells slots 0 0 (F0 m pc ls st0) rest (vp_Sd (fun r9 : UInt64 => r9 = E) a) (fun _ => False)) (he : E = E') (kk : W p l e R s m args below meth c H locs cells slots Q (F0 m (pc + 3) ls (.double E' :: rest))) : W p l e R s m args below meth c H locs cells slots Q (F0 m pc ls st0) := vp_callSd (va_Run.run hr) (fun r h => by have h : r = E := h; subst he; subst h; exact kk)
theorem bv_cMd {E E' : UInt64} {B : State → Prop} (hr : va_Run p l e R s m args below meth c H locs cells slots mc ms (F0 m pc ls st0) rest (va_Qd (fun (r9 : UInt64) (_ : Unit) => r9 = E) (fun _ t => B t) A1 a) free) (hS : va_S A0 H0 H locs) (hA : ∀ q, q < H.size → A1 q → A0 q) (hf : ∀ q, free q → A0 q) (he : E = E')
    (kk : ∀ (t : State) (H1 : Heap) (locs1 : List Loc), t.heap = H1 → s.vm.Alike t.vm → B t → H.size ≤ H1.size → (∀ q : Nat, q < H.size → ¬ A1 q → H1[q]? = H[q]?) → va_S A0 H0 H1 locs1 → W p l e R s m args below meth c H1 locs1 (cells + mc) (slots + ms) Q (F0 m (pc + 3) ls (.double E' :: rest))) : W p l e R s m args below meth c H locs cells slots Q (F0 m pc ls st0) :=
  va_calld hr hS hA hf (fun r u t H1 locs1 h1 h2 h h4 h5 h6 h7 => by have h : r = E := h; subst he; subst h; exact kk t H1 locs1 h1 h2 h4 h5 h6 h7)
end
section
variable {p : Program} {l : Launch} {e : Env} {R : Room} {s : State} {m : MethodId} {args : Array Value} {below : List Frame} {meth : Method} {c : Code} {H : Heap} {locs : List Loc} {cells slots : Nat} {Q : State → Prop} {pc : Nat} {ls : Array Slot} {rest : List Value} {cc : ByteArray} {A : Nat → Prop} {H0 : Heap}
theorem bv_ial {D : va_G} {cl : List vw_C} {ws : va_W} {tys : List (ClassId × FieldType)} {a : Nat} (hexec : p.tables.exec = Jvm.exec) (hb : c.code = cc) (hK : va_K D cl tys s) (hP : va_P D cl ws H) (q0 t0 : Nat) {cA : ClassId} {n : Nat} {f : Nat → Int32} (ha : ws[q0]? = some (a, .inl (cA, n, .inl f))) (ht : tys[t0]? = some (cA, .int)) {k : Nat} (hk : k < n) (hn : n < 2 ^ 31) (hdg : decode cc pc = .ok (.iaload, 1))
    (kk : W p l e R s m args below meth c H locs cells slots Q (F0 m (pc + 1) ls (.int (f k) :: rest))) : W p l e R s m args below meth c H locs cells slots Q (F0 m pc ls (.int (nI k) :: .ref a :: rest)) :=
  va_iald hexec hb hK hP q0 t0 ha ht (vp_in_nI hk hn) hdg (by rw [nI_clamp (Nat.lt_trans hk hn)]; exact kk)
theorem bv_ias {D : va_G} {cl : List vw_C} {ws : va_W} {tys : List (ClassId × FieldType)} {a : Nat} (hexec : p.tables.exec = Jvm.exec) (hb : c.code = cc) (hK : va_K D cl tys s) (hP : va_P D cl ws H) (hD : va_D A ws) (hS : va_S A H0 H locs) (q0 t0 : Nat) {cA : ClassId} {n : Nat} {f : Nat → Int32} (ha : ws[q0]? = some (a, .inl (cA, n, .inl f))) (ht : tys[t0]? = some (cA, .int)) {k : Nat} {x : Int32} (hk : k < n) (hn : n < 2 ^ 31) (hdg : decode cc pc = .ok (.iastore, 1))
    (kk : ∀ (H1 : Heap) (locs1 : List Loc), va_P D cl (ws.set q0 (a, .inl (cA, n, .inl (upd f k x)))) H1 → va_D A (ws.set q0 (a, .inl (cA, n, .inl (upd f k x)))) → va_S A H0 H1 locs1 → W p l e R s m args below meth c H1 locs1 cells slots Q (F0 m (pc + 1) ls rest)) : W p l e R s m args below meth c H locs cells slots Q (F0 m pc ls (.int x :: .int (nI k) :: .ref a :: rest)) :=
  va_iast hexec hb hK hP hD hS q0 t0 ha ht (vp_in_nI hk hn) hdg (by rw [nI_clamp (Nat.lt_trans hk hn)]; exact kk)
end
def bv_max (x y : Int32) : Int32 := if x < y then y else x
def bv_min (x y : Int32) : Int32 := if y < x then y else x

