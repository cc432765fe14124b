/-! Bitwise facts. -/
theorem bv_m1b : (-1 : Int32).toBitVec = BitVec.allOnes 32 := by decide
theorem bv_x1 (x m : Int32) : (x &&& m) ^^^ m = m &&& (x ^^^ (-1)) := by
  apply Int32.toBitVec_inj.mp
  rw [Int32.toBitVec_xor, Int32.toBitVec_and, Int32.toBitVec_and, Int32.toBitVec_xor, bv_m1b]
  apply BitVec.eq_of_getElem_eq
  intro i hi
  simp only [BitVec.getElem_xor, BitVec.getElem_and, BitVec.getElem_allOnes]
  cases x.toBitVec[i] <;> cases m.toBitVec[i] <;> rfl
theorem bv_x2 (x b : Int32) : (x ||| b) &&& (b ^^^ (-1)) = (x ||| b) ^^^ b := by
  apply Int32.toBitVec_inj.mp
  rw [Int32.toBitVec_xor, Int32.toBitVec_and, Int32.toBitVec_or, Int32.toBitVec_xor, bv_m1b]
  apply BitVec.eq_of_getElem_eq
  intro i hi
  simp only [BitVec.getElem_xor, BitVec.getElem_and, BitVec.getElem_or, BitVec.getElem_allOnes]
  cases x.toBitVec[i] <;> cases b.toBitVec[i] <;> rfl
theorem bv_not_x {x : Int32} (h : x &&& 65535 = x) : x ^^^ 65535 = bv_not x := by
  have := bv_x1 x 65535
  rw [h] at this
  exact this
theorem bv_aac (a b c : Int32) : a &&& b &&& c = a &&& c &&& b := by rw [Int32.and_assoc, Int32.and_comm b c, ← Int32.and_assoc]
theorem bv_wi16 (bs : Nat → Int32) (t k : Nat) : bv_wi bs t k &&& 65535 = bv_wi bs t k := by
  induction k with
  | zero => exact (by decide : (65535 : Int32) &&& 65535 = 65535)
  | succ k ih =>
    rw [bv_wi]
    split
    · rw [bv_aac, ih]
    · exact ih
theorem bv_de_m {bs : Nat → Int32} {bn t : Nat} {g : Int32} : bv_wi bs t bn &&& (g ^^^ (-1)) = bv_wi bs t bn &&& bv_not g := by
  rw [bv_not, ← Int32.and_assoc, bv_wi16]
theorem bv_clr {t k : Nat} (hk : k < 31) (h : t.testBit k = true) : nI t &&& (((1 : Int32) <<< (nI k &&& 31)) ^^^ (-1)) = nI (t ^^^ 2 ^ k) := by
  have e1 : nI t ||| nI (2 ^ k) = nI t := by
    rw [bv_nIo]
    congr 1
    apply Nat.eq_of_testBit_eq
    intro i
    rw [Nat.testBit_or, Nat.testBit_two_pow]
    by_cases e : k = i
    · subst e; rw [h]; rfl
    · simp [e]
  have e2 := bv_x2 (nI t) (nI (2 ^ k))
  rw [e1] at e2
  rw [bv_bits k hk, e2, bv_nIx]

set_option maxHeartbeats 4000000 in
set_option maxRecDepth 100000 in
theorem m_X4_negate (l : Launch) (G : va_G) (cI : ClassId) (sz : Nat) (y yp yb yr yl pn bn : Nat) (th : Int32) (pf bs br lv : Nat → Int32) (hp : pn ≤ 12) (hn : bn ≤ 10) (hpf : ∀ j, j < pn → pf j &&& 65535 = pf j) : Met l yX4_negate wsX4_negate ({ frames := 1, cells := 0, slots := 0, locals := 21 }) (bv_P [.ref y] G cI (fun H => H.size = sz ∧ va_P G vwCl [(y, .inr (4, [.int th, .int (nI pn), .ref yp, .int (nI bn), .ref yb, .ref yr, .ref yl])), (yp, .inl (cI, 12, .inl pf)), (yb, .inl (cI, 10, .inl bs)), (yr, .inl (cI, 10, .inl br)), (yl, .inl (cI, 16, .inl lv))] H ∧ va_D (fun _ => True) [(y, .inr (4, [.int th, .int (nI pn), .ref yp, .int (nI bn), .ref yb, .ref yr, .ref yl])), (yp, .inl (cI, 12, .inl pf)), (yb, .inl (cI, 10, .inl bs)), (yr, .inl (cI, 10, .inl br)), (yl, .inl (cI, 16, .inl lv))])) (va_Qi (fun (r9 : Int32) (_ : Unit) => r9 = (bv_if (if ¬ (1 ≤ pn) then 1 else 0) (bv_not (pf (pn - 1))) 0)) (fun (_ : Unit) (T9 : State) => va_P G vwCl [(y, .inr (4, [.int (nI (if ¬ (1 ≤ pn) then 1 else 0)), .int (nI pn), .ref yp, .int (nI bn), .ref yb, .ref yr, .ref yl])), (yp, .inl (cI, 12, .inl (bv_if (if ¬ (1 ≤ pn) then 1 else 0) (upd pf (pn - 1) (bv_not (pf (pn - 1)))) pf))), (yb, .inl (cI, 10, .inl bs)), (yr, .inl (cI, 10, .inl br)), (yl, .inl (cI, 16, .inl lv))] T9.heap) (va_A [(y, .inr (4, [.int th, .int (nI pn), .ref yp, .int (nI bn), .ref yb, .ref yr, .ref yl])), (yp, .inl (cI, 12, .inl pf)), (yb, .inl (cI, 10, .inl bs)), (yr, .inl (cI, 10, .inl br)), (yl, .inl (cI, 16, .inl lv))] sz)) 0 0 (va_A [(y, .inr (4, [.int th, .int (nI pn), .ref yp, .int (nI bn), .ref yb, .ref yr, .ref yl])), (yp, .inl (cI, 12, .inl pf)), (yb, .inl (cI, 10, .inl bs)), (yr, .inl (cI, 10, .inl br)), (yl, .inl (cI, 16, .inl lv))] sz) := by
  refine Met.ofW (cc := cX4_negate) (maxL := 1) (ret := (some .int)) (by decide) rfl ?_
  intro p e s m args below meth c s₁ B hml hv
  obtain ⟨rfl, ⟨hsz, hP, hD0⟩, hE⟩ := hv
  have hx := B.exec
  have hb := B.bytes
  have hr := B.returns
  have hts := atoms_spec (ws := wsX4_negate) B.pre
  have hown : s.vm.findClass RX4 = some m.cls := findClass_of_methodNamed B.named
  have hlocks := B.notSynchronized
  have hK := hE.1
  have hw0 := hts (.fieldLink RX4 22 "BeliefReviserModel" "thrown" "I") (List.mem_of_getElem? (i := 1) rfl)
  have hw1 : ∀ w ∈ u_ws RX4 TX4 7, w ∈ wsX4_negate := by decide +kernel
  have hw2 := hts (.fieldLink RX4 33 "BeliefReviserModel" "high" "I") (List.mem_of_getElem? (i := 2) rfl)
  have hw3 := hts (.fieldLink RX4 9 "BeliefReviserModel" "pile" "[I") (List.mem_of_getElem? (i := 3) rfl)
  have hw4 := hts (.constant RX4 51 65535) (List.mem_of_getElem? (i := 4) rfl)
  subst hsz
  have hD := hD0.self (sz := s.heap.size)
  generalize hAe : va_A [(y, .inr (4, [.int th, .int (nI pn), .ref yp, .int (nI bn), .ref yb, .ref yr, .ref yl])), (yp, .inl (cI, 12, .inl pf)), (yb, .inl (cI, 10, .inl bs)), (yr, .inl (cI, 10, .inl br)), (yl, .inl (cI, 16, .inl lv))] s.heap.size = A at hD ⊢
  have hA : ∀ q : Nat, s.heap.size ≤ q → A q := fun q h => by rw [← hAe]; exact Or.inr h
  have hS : va_S A s.heap s.heap [] := va_S.rf
  have hP : va_P G vwCl [(y, .inr (4, [.int th, .int (nI pn), .ref yp, .int (nI bn), .ref yb, .ref yr, .ref yl])), (yp, .inl (cI, 12, .inl pf)), (yb, .inl (cI, 10, .inl bs)), (yr, .inl (cI, 10, .inl br)), (yl, .inl (cI, 16, .inl lv))] s.heap := hP
  have hl := lv_entry ([.ref y]) (n := 1) (Nat.le_of_ble_eq_true rfl)
  rw [lg_entry_eq]
  generalize (lg_sl ([.ref y]) ++ List.replicate (1 - (lg_sl ([.ref y])).length) Slot.unset).toArray = ls at hl ⊢
  have hl : lv_has ls 1 [(0, .ref y)] := hl
  refine lv_aload_n (pc := 0) hx hb dX4_negate_0 rfl (lv_at hl 0 rfl) ?_
  refine lv_iconst (pc := 1) (v := 0) hx hb dX4_negate_1 (by decide) ?_
  refine va_put (pc := 2) (D := G) (ci := 4) (v := .int 0) (ty := .int) (C := RX4) (T := TX4) (N := 7) hx hb hts hw1 tyX4 tyX4_ok nmX4 hown hK hP hD hS 0 rfl rfl 0 (by decide) hw0 (fun _ h9 => h9) rfl (by decide +kernel) rfl rfl (Nat.le_of_ble_eq_true rfl) dX4_negate_2 (fun H locs hP hD hS => ?_)
  have hP : va_P G vwCl [(y, .inr (4, [.int 0, .int (nI pn), .ref yp, .int (nI bn), .ref yb, .ref yr, .ref yl])), (yp, .inl (cI, 12, .inl pf)), (yb, .inl (cI, 10, .inl bs)), (yr, .inl (cI, 10, .inl br)), (yl, .inl (cI, 16, .inl lv))] H := hP
  have hD : va_D A [(y, .inr (4, [.int 0, .int (nI pn), .ref yp, .int (nI bn), .ref yb, .ref yr, .ref yl])), (yp, .inl (cI, 12, .inl pf)), (yb, .inl (cI, 10, .inl bs)), (yr, .inl (cI, 10, .inl br)), (yl, .inl (cI, 16, .inl lv))] := hD
  refine lv_aload_n (pc := 5) hx hb dX4_negate_5 rfl (lv_at hl 0 rfl) ?_
  refine va_get (pc := 6) (D := G) (ci := 4) (v := .int (nI pn)) (C := RX4) (T := TX4) (N := 7) hx hb hts hw1 hown hK hP 0 rfl rfl 1 (by decide) hw2 (fun _ h9 => h9) rfl dX4_negate_6 ?_
  refine lv_if_ne (pc := 9) (tgt := 18) hx hb dX4_negate_9 (by decide) (fun c9_1 => ?_) (fun c9_1 => ?_)
  · have hck0 : 1 ≤ pn := by
      by_cases h : pn = 0
      · exact absurd (by rw [h]; rfl) c9_1
      · omega
    refine lv_aload_n (pc := 18) hx hb dX4_negate_18 rfl (lv_at hl 0 rfl) ?_
    refine va_get (pc := 19) (D := G) (ci := 4) (v := .ref yp) (C := RX4) (T := TX4) (N := 7) hx hb hts hw1 hown hK hP 0 rfl rfl 2 (by decide) hw3 (fun _ h9 => h9) rfl dX4_negate_19 ?_
    refine lv_aload_n (pc := 22) hx hb dX4_negate_22 rfl (lv_at hl 0 rfl) ?_
    refine va_get (pc := 23) (D := G) (ci := 4) (v := .int (nI pn)) (C := RX4) (T := TX4) (N := 7) hx hb hts hw1 hown hK hP 0 rfl rfl 1 (by decide) hw2 (fun _ h9 => h9) rfl dX4_negate_23 ?_
    refine lv_iconst (pc := 26) (v := 1) hx hb dX4_negate_26 (by decide) ?_
    refine lv_isub (pc := 27) hx hb dX4_negate_27 ?_
    rw [show ((nI pn) - 1) = nI (pn - 1) from by rw [show (1 : Int32) = nI 1 from rfl, bv_sub (by omega)]]
    refine lv_dup2_11 (pc := 28) hx hb dX4_negate_28 rfl rfl ?_
    refine bv_ial (pc := 29) hx hb hK hP 1 0 rfl rfl (by omega) (by omega) dX4_negate_29 ?_
    refine lv_ldc (pc := 30) hx hb hown hw4 dX4_negate_30 ?_
    refine lv_ixor (pc := 32) hx hb dX4_negate_32 ?_
    rw [show ((pf (pn - 1)) ^^^ 65535) = bv_not (pf (pn - 1)) from bv_not_x (hpf _ (by omega))]
    refine bv_ias (pc := 33) hx hb hK hP hD hS 1 0 rfl rfl (by omega) (by omega) dX4_negate_33 (fun H locs hP hD hS => ?_)
    have hP : va_P G vwCl [(y, .inr (4, [.int 0, .int (nI pn), .ref yp, .int (nI bn), .ref yb, .ref yr, .ref yl])), (yp, .inl (cI, 12, .inl (upd pf (pn - 1) (bv_not (pf (pn - 1)))))), (yb, .inl (cI, 10, .inl bs)), (yr, .inl (cI, 10, .inl br)), (yl, .inl (cI, 16, .inl lv))] H := hP
    have hD : va_D A [(y, .inr (4, [.int 0, .int (nI pn), .ref yp, .int (nI bn), .ref yb, .ref yr, .ref yl])), (yp, .inl (cI, 12, .inl (upd pf (pn - 1) (bv_not (pf (pn - 1)))))), (yb, .inl (cI, 10, .inl bs)), (yr, .inl (cI, 10, .inl br)), (yl, .inl (cI, 16, .inl lv))] := hD
    refine lv_aload_n (pc := 34) hx hb dX4_negate_34 rfl (lv_at hl 0 rfl) ?_
    refine lv_iconst (pc := 35) (v := 0) hx hb dX4_negate_35 (by decide) ?_
    have hPc := hP.sub (ws' := [(y, .inr (4, [.int 0, .int (nI pn), .ref yp, .int (nI bn), .ref yb, .ref yr, .ref yl])), (yp, .inl (cI, 12, .inl (upd pf (pn - 1) (bv_not (pf (pn - 1))))))]) [0, 1] rfl
    refine bv_cSi (pc := 36) (E' := (bv_not (pf (pn - 1)))) (va_runV (As := [.int 0]) (rest := []) ⟨hx, hb, hml, hown, hts⟩ (m_X4_top l G cI y yp yb yr yl pn 0 (nI bn) (upd pf (pn - 1) (bv_not (pf (pn - 1)))) 0 hck0 hp) (cwV 1 hts gX4_negate_X4_top rfl rfl rfl (by decide +kernel) ⟨Nat.le_of_ble_eq_true rfl, Nat.le_of_ble_eq_true rfl⟩) (bv_pV hE hPc (va_recv hK hP (ci := 4) (q0 := 0) rfl rfl)) rfl rfl hl.1 rfl (lv_room (Nat.le_of_ble_eq_true rfl)) dX4_negate_36 ⟨Nat.le_of_ble_eq_true rfl, Nat.le_of_ble_eq_true rfl⟩) (by rw [Nat.sub_zero]; exact pk_us) ?_
    have hP9 : va_P G vwCl [(y, .inr (4, [.int (nI (if ¬ (1 ≤ pn) then 1 else 0)), .int (nI pn), .ref yp, .int (nI bn), .ref yb, .ref yr, .ref yl])), (yp, .inl (cI, 12, .inl (bv_if (if ¬ (1 ≤ pn) then 1 else 0) (upd pf (pn - 1) (bv_not (pf (pn - 1)))) pf))), (yb, .inl (cI, 10, .inl bs)), (yr, .inl (cI, 10, .inl br)), (yl, .inl (cI, 16, .inl lv))] H := by rw [if_neg (not_not_intro hck0)]; exact hP
    exact W.iret (pc := 39) (v := (bv_not (pf (pn - 1)))) hx hb hr (fun T8 hT8 hW8 => ⟨⟨(bv_not (pf (pn - 1))), (), rfl, (by rw [if_neg (not_not_intro hck0)]; rfl), bv_hP hT8 hP9⟩, hS.F hT8⟩) hS.2.2 dX4_negate_39
  · have hbad : ¬ 1 ≤ pn := by
      have h : pn = 0 := (bv_pn0 (by omega)).mp c9_1
      omega
    refine lv_aload_n (pc := 12) hx hb dX4_negate_12 rfl (lv_at hl 0 rfl) ?_
    refine lv_iconst (pc := 13) (v := 1) hx hb dX4_negate_13 (by decide) ?_
    have hPc := hP.sub (ws' := [(y, .inr (4, [.int 0, .int (nI pn), .ref yp, .int (nI bn), .ref yb, .ref yr, .ref yl]))]) [0] rfl
    have hDc := hD.sub (ws' := [(y, .inr (4, [.int 0, .int (nI pn), .ref yp, .int (nI bn), .ref yb, .ref yr, .ref yl]))]) [0] (by decide) rfl
    have hFc := va_free (wc := [(y, .inr (4, [.int 0, .int (nI pn), .ref yp, .int (nI bn), .ref yb, .ref yr, .ref yl]))]) hD hS hA [0] rfl
    refine bv_cMi (pc := 14) (E' := 0) (va_runV (As := [.int 1]) (rest := []) ⟨hx, hb, hml, hown, hts⟩ (m_X4_no l G cI H.size y yp yb yr yl 0 (nI pn) (nI bn) 1 ) (cwV 1 hts gX4_negate_X4_no rfl rfl rfl (by decide +kernel) ⟨Nat.le_of_ble_eq_true rfl, Nat.le_of_ble_eq_true rfl⟩) (bv_pV hE ⟨rfl, hPc, hDc.weaken (fun _ _ _ _ => trivial)⟩ (va_recv hK hP (ci := 4) (q0 := 0) rfl rfl)) rfl rfl hl.1 rfl (lv_room (Nat.le_of_ble_eq_true rfl)) dX4_negate_14 ⟨Nat.le_of_ble_eq_true rfl, Nat.le_of_ble_eq_true rfl⟩) hS (fun q _ h => hFc q h) hFc rfl (fun t8 H1 locs ht8 hvm8 hB8 hz1 hk1 hS => ?_)
    have hP1 : va_P G vwCl [(y, .inr (4, [.int 1, .int (nI pn), .ref yp, .int (nI bn), .ref yb, .ref yr, .ref yl]))] H1 := by rw [← ht8]; exact hB8
    obtain ⟨hP, hD⟩ := va_join (wr := [(yp, .inl (cI, 12, .inl pf)), (yb, .inl (cI, 10, .inl bs)), (yr, .inl (cI, 10, .inl br)), (yl, .inl (cI, 16, .inl lv))]) (w1 := [(y, .inr (4, [.int 1, .int (nI pn), .ref yp, .int (nI bn), .ref yb, .ref yr, .ref yl]))]) hP hD [0] [1, 2, 3, 4] rfl rfl (by decide) (by decide) hk1 hFc hP1 (bv_Dm (w0 := [(y, .inr (4, [.int 0, .int (nI pn), .ref yp, .int (nI bn), .ref yb, .ref yr, .ref yl]))]) [y] rfl rfl hDc.self)
    have hP : va_P G vwCl [(y, .inr (4, [.int 1, .int (nI pn), .ref yp, .int (nI bn), .ref yb, .ref yr, .ref yl])), (yp, .inl (cI, 12, .inl pf)), (yb, .inl (cI, 10, .inl bs)), (yr, .inl (cI, 10, .inl br)), (yl, .inl (cI, 16, .inl lv))] H1 := hP.sub (ws' := [(y, .inr (4, [.int 1, .int (nI pn), .ref yp, .int (nI bn), .ref yb, .ref yr, .ref yl])), (yp, .inl (cI, 12, .inl pf)), (yb, .inl (cI, 10, .inl bs)), (yr, .inl (cI, 10, .inl br)), (yl, .inl (cI, 16, .inl lv))]) [4, 0, 1, 2, 3] rfl
    have hD : va_D A [(y, .inr (4, [.int 1, .int (nI pn), .ref yp, .int (nI bn), .ref yb, .ref yr, .ref yl])), (yp, .inl (cI, 12, .inl pf)), (yb, .inl (cI, 10, .inl bs)), (yr, .inl (cI, 10, .inl br)), (yl, .inl (cI, 16, .inl lv))] := hD.sub (ws' := [(y, .inr (4, [.int 1, .int (nI pn), .ref yp, .int (nI bn), .ref yb, .ref yr, .ref yl])), (yp, .inl (cI, 12, .inl pf)), (yb, .inl (cI, 10, .inl bs)), (yr, .inl (cI, 10, .inl br)), (yl, .inl (cI, 16, .inl lv))]) [4, 0, 1, 2, 3] (by decide) rfl
    generalize H1 = H at hP hS ⊢
    have hP9 : va_P G vwCl [(y, .inr (4, [.int (nI (if ¬ (1 ≤ pn) then 1 else 0)), .int (nI pn), .ref yp, .int (nI bn), .ref yb, .ref yr, .ref yl])), (yp, .inl (cI, 12, .inl (bv_if (if ¬ (1 ≤ pn) then 1 else 0) (upd pf (pn - 1) (bv_not (pf (pn - 1)))) pf))), (yb, .inl (cI, 10, .inl bs)), (yr, .inl (cI, 10, .inl br)), (yl, .inl (cI, 16, .inl lv))] H := by rw [if_pos hbad]; exact hP
    exact W.iret (pc := 17) (v := 0) hx hb hr (fun T8 hT8 hW8 => ⟨⟨0, (), rfl, (by rw [if_pos hbad]; rfl), bv_hP hT8 hP9⟩, hS.F hT8⟩) hS.2.2 dX4_negate_17
set_option maxHeartbeats 4000000 in
set_option maxRecDepth 100000 in
theorem m_X4_join (l : Launch) (G : va_G) (cI : ClassId) (sz : Nat) (y yp yb yr yl pn bn : Nat) (th : Int32) (pf bs br lv : Nat → Int32) (i : Int32) (hp : pn ≤ 12) (hn : bn ≤ 10) : Met l yX4_join wsX4_join ({ frames := 1, cells := 0, slots := 0, locals := 22 }) (bv_P [.ref y, .int i] G cI (fun H => H.size = sz ∧ va_P G vwCl [(y, .inr (4, [.int th, .int (nI pn), .ref yp, .int (nI bn), .ref yb, .ref yr, .ref yl])), (yp, .inl (cI, 12, .inl pf)), (yb, .inl (cI, 10, .inl bs)), (yr, .inl (cI, 10, .inl br)), (yl, .inl (cI, 16, .inl lv))] H ∧ va_D (fun _ => True) [(y, .inr (4, [.int th, .int (nI pn), .ref yp, .int (nI bn), .ref yb, .ref yr, .ref yl])), (yp, .inl (cI, 12, .inl pf)), (yb, .inl (cI, 10, .inl bs)), (yr, .inl (cI, 10, .inl br)), (yl, .inl (cI, 16, .inl lv))])) (va_Qi (fun (r9 : Int32) (_ : Unit) => r9 = (bv_if (if ¬ (0 ≤ i ∧ i ≤ 3) then 1 else (if ¬ (2 ≤ pn) then 2 else 0)) (bv_join i (pf (pn - 2)) (pf (pn - 1))) 0)) (fun (_ : Unit) (T9 : State) => va_P G vwCl [(y, .inr (4, [.int (nI (if ¬ (0 ≤ i ∧ i ≤ 3) then 1 else (if ¬ (2 ≤ pn) then 2 else 0))), .int (nI (bv_if (if ¬ (0 ≤ i ∧ i ≤ 3) then 1 else (if ¬ (2 ≤ pn) then 2 else 0)) (pn - 1) pn)), .ref yp, .int (nI bn), .ref yb, .ref yr, .ref yl])), (yp, .inl (cI, 12, .inl (bv_if (if ¬ (0 ≤ i ∧ i ≤ 3) then 1 else (if ¬ (2 ≤ pn) then 2 else 0)) (upd pf (pn - 2) (bv_join i (pf (pn - 2)) (pf (pn - 1)))) pf))), (yb, .inl (cI, 10, .inl bs)), (yr, .inl (cI, 10, .inl br)), (yl, .inl (cI, 16, .inl lv))] T9.heap) (va_A [(y, .inr (4, [.int th, .int (nI pn), .ref yp, .int (nI bn), .ref yb, .ref yr, .ref yl])), (yp, .inl (cI, 12, .inl pf)), (yb, .inl (cI, 10, .inl bs)), (yr, .inl (cI, 10, .inl br)), (yl, .inl (cI, 16, .inl lv))] sz)) 0 0 (va_A [(y, .inr (4, [.int th, .int (nI pn), .ref yp, .int (nI bn), .ref yb, .ref yr, .ref yl])), (yp, .inl (cI, 12, .inl pf)), (yb, .inl (cI, 10, .inl bs)), (yr, .inl (cI, 10, .inl br)), (yl, .inl (cI, 16, .inl lv))] sz) := by
  refine Met.ofW (cc := cX4_join) (maxL := 4) (ret := (some .int)) (by decide) rfl ?_
  intro p e s m args below meth c s₁ B hml hv
  obtain ⟨rfl, ⟨hsz, hP, hD0⟩, hE⟩ := hv
  have hx := B.exec
  have hb := B.bytes
  have hr := B.returns
  have hts := atoms_spec (ws := wsX4_join) B.pre
  have hown : s.vm.findClass RX4 = some m.cls := findClass_of_methodNamed B.named
  have hlocks := B.notSynchronized
  have hK := hE.1
  have hw0 := hts (.fieldLink RX4 22 "BeliefReviserModel" "thrown" "I") (List.mem_of_getElem? (i := 1) rfl)
  have hw1 : ∀ w ∈ u_ws RX4 TX4 7, w ∈ wsX4_join := by decide +kernel
  have hw2 := hts (.static yX4_isIn) (List.mem_of_getElem? (i := 6) rfl)
  have hw3 := hts (.fieldLink RX4 33 "BeliefReviserModel" "high" "I") (List.mem_of_getElem? (i := 2) rfl)
  have hw4 := hts (.fieldLink RX4 9 "BeliefReviserModel" "pile" "[I") (List.mem_of_getElem? (i := 3) rfl)
  have hw5 := hts (.constant RX4 51 65535) (List.mem_of_getElem? (i := 4) rfl)
  subst hsz
  have hD := hD0.self (sz := s.heap.size)
  generalize hAe : va_A [(y, .inr (4, [.int th, .int (nI pn), .ref yp, .int (nI bn), .ref yb, .ref yr, .ref yl])), (yp, .inl (cI, 12, .inl pf)), (yb, .inl (cI, 10, .inl bs)), (yr, .inl (cI, 10, .inl br)), (yl, .inl (cI, 16, .inl lv))] s.heap.size = A at hD ⊢
  have hA : ∀ q : Nat, s.heap.size ≤ q → A q := fun q h => by rw [← hAe]; exact Or.inr h
  have hS : va_S A s.heap s.heap [] := va_S.rf
  have hP : va_P G vwCl [(y, .inr (4, [.int th, .int (nI pn), .ref yp, .int (nI bn), .ref yb, .ref yr, .ref yl])), (yp, .inl (cI, 12, .inl pf)), (yb, .inl (cI, 10, .inl bs)), (yr, .inl (cI, 10, .inl br)), (yl, .inl (cI, 16, .inl lv))] s.heap := hP
  have hl := lv_entry ([.ref y, .int i]) (n := 4) (Nat.le_of_ble_eq_true rfl)
  rw [lg_entry_eq]
  generalize (lg_sl ([.ref y, .int i]) ++ List.replicate (4 - (lg_sl ([.ref y, .int i])).length) Slot.unset).toArray = ls at hl ⊢
  have hl : lv_has ls 4 [(0, .ref y), (1, .int i)] := hl
  refine lv_aload_n (pc := 0) hx hb dX4_join_0 rfl (lv_at hl 0 rfl) ?_
  refine lv_iconst (pc := 1) (v := 0) hx hb dX4_join_1 (by decide) ?_
  refine va_put (pc := 2) (D := G) (ci := 4) (v := .int 0) (ty := .int) (C := RX4) (T := TX4) (N := 7) hx hb hts hw1 tyX4 tyX4_ok nmX4 hown hK hP hD hS 0 rfl rfl 0 (by decide) hw0 (fun _ h9 => h9) rfl (by decide +kernel) rfl rfl (Nat.le_of_ble_eq_true rfl) dX4_join_2 (fun H locs hP hD hS => ?_)
  have hP : va_P G vwCl [(y, .inr (4, [.int 0, .int (nI pn), .ref yp, .int (nI bn), .ref yb, .ref yr, .ref yl])), (yp, .inl (cI, 12, .inl pf)), (yb, .inl (cI, 10, .inl bs)), (yr, .inl (cI, 10, .inl br)), (yl, .inl (cI, 16, .inl lv))] H := hP
  have hD : va_D A [(y, .inr (4, [.int 0, .int (nI pn), .ref yp, .int (nI bn), .ref yb, .ref yr, .ref yl])), (yp, .inl (cI, 12, .inl pf)), (yb, .inl (cI, 10, .inl bs)), (yr, .inl (cI, 10, .inl br)), (yl, .inl (cI, 16, .inl lv))] := hD
  refine lv_iload_n (pc := 5) hx hb dX4_join_5 rfl (lv_at hl 1 rfl) ?_
  refine lv_iconst (pc := 6) (v := 0) hx hb dX4_join_6 (by decide) ?_
  refine lv_iconst (pc := 7) (v := 3) hx hb dX4_join_7 (by decide) ?_
  have hPc := hP.sub (ws' := []) [] rfl
  refine bv_cSi (pc := 8) (E' := (bv_b (decide (0 ≤ i ∧ i ≤ 3)))) (va_runS (As := [.int i, .int 0, .int 3]) (rest := []) ⟨hx, hb, hml, hown, hts⟩ (m_X4_isIn l G cI i 0 3 ) (va_cwS 3 hts gX4_join_X4_isIn rfl rfl rfl (by decide +kernel) ⟨Nat.le_of_ble_eq_true rfl, Nat.le_of_ble_eq_true rfl⟩) (bv_pS hE hPc) rfl rfl hl.1 rfl (lv_room (Nat.le_of_ble_eq_true rfl)) dX4_join_8 ⟨Nat.le_of_ble_eq_true rfl, Nat.le_of_ble_eq_true rfl⟩) rfl ?_
  refine lv_if_ne (pc := 11) (tgt := 20) hx hb dX4_join_11 (by decide) (fun c11_3 => ?_) (fun c11_3 => ?_)
  · have hck0 := of_decide_eq_true (bv_b1.mp c11_3)
    refine lv_aload_n (pc := 20) hx hb dX4_join_20 rfl (lv_at hl 0 rfl) ?_
    refine va_get (pc := 21) (D := G) (ci := 4) (v := .int (nI pn)) (C := RX4) (T := TX4) (N := 7) hx hb hts hw1 hown hK hP 0 rfl rfl 1 (by decide) hw3 (fun _ h9 => h9) rfl dX4_join_21 ?_
    refine lv_iconst (pc := 24) (v := 2) hx hb dX4_join_24 (by decide) ?_
    refine lv_icmp_ge (pc := 25) (tgt := 34) hx hb dX4_join_25 (by decide) (fun c25_4 => ?_) (fun c25_4 => ?_)
    · have hck1 : 2 ≤ pn := by
        by_cases h : 2 ≤ pn
        · exact h
        · exact absurd (show nI 2 ≤ nI pn from c25_4) (nI_ge (by omega) (by decide))
      refine lv_aload_n (pc := 34) hx hb dX4_join_34 rfl (lv_at hl 0 rfl) ?_
      refine lv_iconst (pc := 35) (v := 1) hx hb dX4_join_35 (by decide) ?_
      have hPc := hP.sub (ws' := [(y, .inr (4, [.int 0, .int (nI pn), .ref yp, .int (nI bn), .ref yb, .ref yr, .ref yl])), (yp, .inl (cI, 12, .inl pf))]) [0, 1] rfl
      refine bv_cSi (pc := 36) (E' := (pf (pn - 2))) (va_runV (As := [.int 1]) (rest := []) ⟨hx, hb, hml, hown, hts⟩ (m_X4_top l G cI y yp yb yr yl pn 0 (nI bn) pf 1 (by omega) hp) (cwV 1 hts gX4_join_X4_top rfl rfl rfl (by decide +kernel) ⟨Nat.le_of_ble_eq_true rfl, Nat.le_of_ble_eq_true rfl⟩) (bv_pV hE hPc (va_recv hK hP (ci := 4) (q0 := 0) rfl rfl)) rfl rfl hl.1 rfl (lv_room (Nat.le_of_ble_eq_true rfl)) dX4_join_36 ⟨Nat.le_of_ble_eq_true rfl, Nat.le_of_ble_eq_true rfl⟩) (by rw [Nat.sub_sub]) ?_
      refine lv_istore_n (pc := 39) (lv' := [(2, .int (pf (pn - 2))), (0, .ref y), (1, .int i)]) hx hb dX4_join_39 rfl hl (by decide) rfl (fun ls hl => ?_)
      refine lv_aload_n (pc := 40) hx hb dX4_join_40 rfl (lv_at hl 1 rfl) ?_
      refine lv_iconst (pc := 41) (v := 0) hx hb dX4_join_41 (by decide) ?_
      have hPc := hP.sub (ws' := [(y, .inr (4, [.int 0, .int (nI pn), .ref yp, .int (nI bn), .ref yb, .ref yr, .ref yl])), (yp, .inl (cI, 12, .inl pf))]) [0, 1] rfl
      refine bv_cSi (pc := 42) (E' := (pf (pn - 1))) (va_runV (As := [.int 0]) (rest := []) ⟨hx, hb, hml, hown, hts⟩ (m_X4_top l G cI y yp yb yr yl pn 0 (nI bn) pf 0 (by omega) hp) (cwV 1 hts gX4_join_X4_top rfl rfl rfl (by decide +kernel) ⟨Nat.le_of_ble_eq_true rfl, Nat.le_of_ble_eq_true rfl⟩) (bv_pV hE hPc (va_recv hK hP (ci := 4) (q0 := 0) rfl rfl)) rfl rfl hl.1 rfl (lv_room (Nat.le_of_ble_eq_true rfl)) dX4_join_42 ⟨Nat.le_of_ble_eq_true rfl, Nat.le_of_ble_eq_true rfl⟩) (by rw [Nat.sub_zero]) ?_
      refine lv_istore_n (pc := 45) (lv' := [(3, .int (pf (pn - 1))), (2, .int (pf (pn - 2))), (0, .ref y), (1, .int i)]) hx hb dX4_join_45 rfl hl (by decide) rfl (fun ls hl => ?_)
      refine lv_aload_n (pc := 46) hx hb dX4_join_46 rfl (lv_at hl 2 rfl) ?_
      refine lv_dup (pc := 47) hx hb dX4_join_47 rfl ?_
      refine va_get (pc := 48) (D := G) (ci := 4) (v := .int (nI pn)) (C := RX4) (T := TX4) (N := 7) hx hb hts hw1 hown hK hP 0 rfl rfl 1 (by decide) hw3 (fun _ h9 => h9) rfl dX4_join_48 ?_
      refine lv_iconst (pc := 51) (v := 1) hx hb dX4_join_51 (by decide) ?_
      refine lv_isub (pc := 52) hx hb dX4_join_52 ?_
      rw [show ((nI pn) - 1) = (nI (pn - 1)) from by rw [show (1 : Int32) = nI 1 from rfl, bv_sub (by omega)]]
      refine va_put (pc := 53) (D := G) (ci := 4) (v := .int (nI (pn - 1))) (ty := .int) (C := RX4) (T := TX4) (N := 7) hx hb hts hw1 tyX4 tyX4_ok nmX4 hown hK hP hD hS 0 rfl rfl 1 (by decide) hw3 (fun _ h9 => h9) rfl (by decide +kernel) rfl rfl (Nat.le_of_ble_eq_true rfl) dX4_join_53 (fun H locs hP hD hS => ?_)
      have hP : va_P G vwCl [(y, .inr (4, [.int 0, .int (nI (pn - 1)), .ref yp, .int (nI bn), .ref yb, .ref yr, .ref yl])), (yp, .inl (cI, 12, .inl pf)), (yb, .inl (cI, 10, .inl bs)), (yr, .inl (cI, 10, .inl br)), (yl, .inl (cI, 16, .inl lv))] H := hP
      have hD : va_D A [(y, .inr (4, [.int 0, .int (nI (pn - 1)), .ref yp, .int (nI bn), .ref yb, .ref yr, .ref yl])), (yp, .inl (cI, 12, .inl pf)), (yb, .inl (cI, 10, .inl bs)), (yr, .inl (cI, 10, .inl br)), (yl, .inl (cI, 16, .inl lv))] := hD
      refine lv_aload_n (pc := 56) hx hb dX4_join_56 rfl (lv_at hl 2 rfl) ?_
      refine va_get (pc := 57) (D := G) (ci := 4) (v := .ref yp) (C := RX4) (T := TX4) (N := 7) hx hb hts hw1 hown hK hP 0 rfl rfl 2 (by decide) hw4 (fun _ h9 => h9) rfl dX4_join_57 ?_
      refine lv_aload_n (pc := 60) hx hb dX4_join_60 rfl (lv_at hl 2 rfl) ?_
      refine va_get (pc := 61) (D := G) (ci := 4) (v := .int (nI (pn - 1))) (C := RX4) (T := TX4) (N := 7) hx hb hts hw1 hown hK hP 0 rfl rfl 1 (by decide) hw3 (fun _ h9 => h9) rfl dX4_join_61 ?_
      refine lv_iconst (pc := 64) (v := 1) hx hb dX4_join_64 (by decide) ?_
      refine lv_isub (pc := 65) hx hb dX4_join_65 ?_
      rw [show ((nI (pn - 1)) - 1) = nI (pn - 2) from by rw [show (1 : Int32) = nI 1 from rfl, bv_sub (by omega), Nat.sub_sub]]
      refine lv_iload_n (pc := 66) hx hb dX4_join_66 rfl (lv_at hl 3 rfl) ?_
      refine lv_if_ne (pc := 67) (tgt := 76) hx hb dX4_join_67 (by decide) (fun c67_9 => ?_) (fun c67_9 => ?_)
      · have j0 := c67_9
        refine lv_iload_n (pc := 76) hx hb dX4_join_76 rfl (lv_at hl 3 rfl) ?_
        refine lv_iconst (pc := 77) (v := 1) hx hb dX4_join_77 (by decide) ?_
        refine lv_icmp_ne (pc := 78) (tgt := 87) hx hb dX4_join_78 (by decide) (fun c78_10 => ?_) (fun c78_10 => ?_)
        · have j1 := c78_10
          refine lv_iload_n (pc := 87) hx hb dX4_join_87 rfl (lv_at hl 3 rfl) ?_
          refine lv_iconst (pc := 88) (v := 2) hx hb dX4_join_88 (by decide) ?_
          refine lv_icmp_ne (pc := 89) (tgt := 103) hx hb dX4_join_89 (by decide) (fun c89_11 => ?_) (fun c89_11 => ?_)
          · have j2 := c89_11
            refine lv_iload_n (pc := 103) hx hb dX4_join_103 rfl (lv_at hl 1 rfl) ?_
            refine lv_iload_n (pc := 104) hx hb dX4_join_104 rfl (lv_at hl 0 rfl) ?_
            refine lv_ixor (pc := 105) hx hb dX4_join_105 ?_
            refine lv_iconst (pc := 106) (v := (-1)) hx hb dX4_join_106 (by decide) ?_
            refine lv_ixor (pc := 107) hx hb dX4_join_107 ?_
            refine lv_ldc (pc := 108) hx hb hown hw5 dX4_join_108 ?_
            refine lv_iand (pc := 110) hx hb dX4_join_110 ?_
            rw [show ((((pf (pn - 2)) ^^^ (pf (pn - 1))) ^^^ (-1)) &&& 65535) = (bv_join i (pf (pn - 2)) (pf (pn - 1))) from by unfold bv_join; first | rw [if_pos j0] | rw [if_neg j0, if_pos j1] | (rw [if_neg j0, if_neg j1, if_pos j2]; unfold bv_not; rw [Int32.and_comm (_ ^^^ _) 65535]) | (rw [if_neg j0, if_neg j1, if_neg j2]; unfold bv_not; rw [Int32.and_comm 65535 _])]
            refine bv_ias (pc := 111) hx hb hK hP hD hS 1 0 rfl rfl (by omega) (by omega) dX4_join_111 (fun H locs hP hD hS => ?_)
            have hP : va_P G vwCl [(y, .inr (4, [.int 0, .int (nI (pn - 1)), .ref yp, .int (nI bn), .ref yb, .ref yr, .ref yl])), (yp, .inl (cI, 12, .inl (upd pf (pn - 2) (bv_join i (pf (pn - 2)) (pf (pn - 1)))))), (yb, .inl (cI, 10, .inl bs)), (yr, .inl (cI, 10, .inl br)), (yl, .inl (cI, 16, .inl lv))] H := hP
            have hD : va_D A [(y, .inr (4, [.int 0, .int (nI (pn - 1)), .ref yp, .int (nI bn), .ref yb, .ref yr, .ref yl])), (yp, .inl (cI, 12, .inl (upd pf (pn - 2) (bv_join i (pf (pn - 2)) (pf (pn - 1)))))), (yb, .inl (cI, 10, .inl bs)), (yr, .inl (cI, 10, .inl br)), (yl, .inl (cI, 16, .inl lv))] := hD
            refine lv_aload_n (pc := 112) hx hb dX4_join_112 rfl (lv_at hl 2 rfl) ?_
            refine lv_iconst (pc := 113) (v := 0) hx hb dX4_join_113 (by decide) ?_
            have hPc := hP.sub (ws' := [(y, .inr (4, [.int 0, .int (nI (pn - 1)), .ref yp, .int (nI bn), .ref yb, .ref yr, .ref yl])), (yp, .inl (cI, 12, .inl (upd pf (pn - 2) (bv_join i (pf (pn - 2)) (pf (pn - 1))))))]) [0, 1] rfl
            refine bv_cSi (pc := 114) (E' := (bv_join i (pf (pn - 2)) (pf (pn - 1)))) (va_runV (As := [.int 0]) (rest := []) ⟨hx, hb, hml, hown, hts⟩ (m_X4_top l G cI y yp yb yr yl (pn - 1) 0 (nI bn) (upd pf (pn - 2) (bv_join i (pf (pn - 2)) (pf (pn - 1)))) 0 (by omega) (by omega)) (cwV 1 hts gX4_join_X4_top rfl rfl rfl (by decide +kernel) ⟨Nat.le_of_ble_eq_true rfl, Nat.le_of_ble_eq_true rfl⟩) (bv_pV hE hPc (va_recv hK hP (ci := 4) (q0 := 0) rfl rfl)) rfl rfl hl.1 rfl (lv_room (Nat.le_of_ble_eq_true rfl)) dX4_join_114 ⟨Nat.le_of_ble_eq_true rfl, Nat.le_of_ble_eq_true rfl⟩) (by rw [show pn - 1 - 1 - 0 = pn - 2 by omega]; exact pk_us) ?_
            have hP9 : va_P G vwCl [(y, .inr (4, [.int (nI (if ¬ (0 ≤ i ∧ i ≤ 3) then 1 else (if ¬ (2 ≤ pn) then 2 else 0))), .int (nI (bv_if (if ¬ (0 ≤ i ∧ i ≤ 3) then 1 else (if ¬ (2 ≤ pn) then 2 else 0)) (pn - 1) pn)), .ref yp, .int (nI bn), .ref yb, .ref yr, .ref yl])), (yp, .inl (cI, 12, .inl (bv_if (if ¬ (0 ≤ i ∧ i ≤ 3) then 1 else (if ¬ (2 ≤ pn) then 2 else 0)) (upd pf (pn - 2) (bv_join i (pf (pn - 2)) (pf (pn - 1)))) pf))), (yb, .inl (cI, 10, .inl bs)), (yr, .inl (cI, 10, .inl br)), (yl, .inl (cI, 16, .inl lv))] H := by rw [if_neg (not_not_intro hck0), if_neg (not_not_intro hck1)]; exact hP
            exact W.iret (pc := 117) (v := (bv_join i (pf (pn - 2)) (pf (pn - 1)))) hx hb hr (fun T8 hT8 hW8 => ⟨⟨(bv_join i (pf (pn - 2)) (pf (pn - 1))), (), rfl, (by rw [if_neg (not_not_intro hck0), if_neg (not_not_intro hck1)]; rfl), bv_hP hT8 hP9⟩, hS.F hT8⟩) hS.2.2 dX4_join_117
          · have j2 := c89_11
            refine lv_iload_n (pc := 92) hx hb dX4_join_92 rfl (lv_at hl 1 rfl) ?_
            refine lv_iload_n (pc := 93) hx hb dX4_join_93 rfl (lv_at hl 0 rfl) ?_
            refine lv_iconst (pc := 94) (v := (-1)) hx hb dX4_join_94 (by decide) ?_
            refine lv_ixor (pc := 95) hx hb dX4_join_95 ?_
            refine lv_ldc (pc := 96) hx hb hown hw5 dX4_join_96 ?_
            refine lv_iand (pc := 98) hx hb dX4_join_98 ?_
            refine lv_ior (pc := 99) hx hb dX4_join_99 ?_
            refine lv_goto (pc := 100) (tgt := 111) hx hb dX4_join_100 (by decide) ?_
            rw [show ((pf (pn - 2)) ||| (((pf (pn - 1)) ^^^ (-1)) &&& 65535)) = (bv_join i (pf (pn - 2)) (pf (pn - 1))) from by unfold bv_join; first | rw [if_pos j0] | rw [if_neg j0, if_pos j1] | (rw [if_neg j0, if_neg j1, if_pos j2]; unfold bv_not; rw [Int32.and_comm (_ ^^^ _) 65535]) | (rw [if_neg j0, if_neg j1, if_neg j2]; unfold bv_not; rw [Int32.and_comm 65535 _])]
            refine bv_ias (pc := 111) hx hb hK hP hD hS 1 0 rfl rfl (by omega) (by omega) dX4_join_111 (fun H locs hP hD hS => ?_)
            have hP : va_P G vwCl [(y, .inr (4, [.int 0, .int (nI (pn - 1)), .ref yp, .int (nI bn), .ref yb, .ref yr, .ref yl])), (yp, .inl (cI, 12, .inl (upd pf (pn - 2) (bv_join i (pf (pn - 2)) (pf (pn - 1)))))), (yb, .inl (cI, 10, .inl bs)), (yr, .inl (cI, 10, .inl br)), (yl, .inl (cI, 16, .inl lv))] H := hP
            have hD : va_D A [(y, .inr (4, [.int 0, .int (nI (pn - 1)), .ref yp, .int (nI bn), .ref yb, .ref yr, .ref yl])), (yp, .inl (cI, 12, .inl (upd pf (pn - 2) (bv_join i (pf (pn - 2)) (pf (pn - 1)))))), (yb, .inl (cI, 10, .inl bs)), (yr, .inl (cI, 10, .inl br)), (yl, .inl (cI, 16, .inl lv))] := hD
            refine lv_aload_n (pc := 112) hx hb dX4_join_112 rfl (lv_at hl 2 rfl) ?_
            refine lv_iconst (pc := 113) (v := 0) hx hb dX4_join_113 (by decide) ?_
            have hPc := hP.sub (ws' := [(y, .inr (4, [.int 0, .int (nI (pn - 1)), .ref yp, .int (nI bn), .ref yb, .ref yr, .ref yl])), (yp, .inl (cI, 12, .inl (upd pf (pn - 2) (bv_join i (pf (pn - 2)) (pf (pn - 1))))))]) [0, 1] rfl
            refine bv_cSi (pc := 114) (E' := (bv_join i (pf (pn - 2)) (pf (pn - 1)))) (va_runV (As := [.int 0]) (rest := []) ⟨hx, hb, hml, hown, hts⟩ (m_X4_top l G cI y yp yb yr yl (pn - 1) 0 (nI bn) (upd pf (pn - 2) (bv_join i (pf (pn - 2)) (pf (pn - 1)))) 0 (by omega) (by omega)) (cwV 1 hts gX4_join_X4_top rfl rfl rfl (by decide +kernel) ⟨Nat.le_of_ble_eq_true rfl, Nat.le_of_ble_eq_true rfl⟩) (bv_pV hE hPc (va_recv hK hP (ci := 4) (q0 := 0) rfl rfl)) rfl rfl hl.1 rfl (lv_room (Nat.le_of_ble_eq_true rfl)) dX4_join_114 ⟨Nat.le_of_ble_eq_true rfl, Nat.le_of_ble_eq_true rfl⟩) (by rw [show pn - 1 - 1 - 0 = pn - 2 by omega]; exact pk_us) ?_
            have hP9 : va_P G vwCl [(y, .inr (4, [.int (nI (if ¬ (0 ≤ i ∧ i ≤ 3) then 1 else (if ¬ (2 ≤ pn) then 2 else 0))), .int (nI (bv_if (if ¬ (0 ≤ i ∧ i ≤ 3) then 1 else (if ¬ (2 ≤ pn) then 2 else 0)) (pn - 1) pn)), .ref yp, .int (nI bn), .ref yb, .ref yr, .ref yl])), (yp, .inl (cI, 12, .inl (bv_if (if ¬ (0 ≤ i ∧ i ≤ 3) then 1 else (if ¬ (2 ≤ pn) then 2 else 0)) (upd pf (pn - 2) (bv_join i (pf (pn - 2)) (pf (pn - 1)))) pf))), (yb, .inl (cI, 10, .inl bs)), (yr, .inl (cI, 10, .inl br)), (yl, .inl (cI, 16, .inl lv))] H := by rw [if_neg (not_not_intro hck0), if_neg (not_not_intro hck1)]; exact hP
            exact W.iret (pc := 117) (v := (bv_join i (pf (pn - 2)) (pf (pn - 1)))) hx hb hr (fun T8 hT8 hW8 => ⟨⟨(bv_join i (pf (pn - 2)) (pf (pn - 1))), (), rfl, (by rw [if_neg (not_not_intro hck0), if_neg (not_not_intro hck1)]; rfl), bv_hP hT8 hP9⟩, hS.F hT8⟩) hS.2.2 dX4_join_117
        · have j1 := c78_10
          refine lv_iload_n (pc := 81) hx hb dX4_join_81 rfl (lv_at hl 1 rfl) ?_
          refine lv_iload_n (pc := 82) hx hb dX4_join_82 rfl (lv_at hl 0 rfl) ?_
          refine lv_ior (pc := 83) hx hb dX4_join_83 ?_
          refine lv_goto (pc := 84) (tgt := 111) hx hb dX4_join_84 (by decide) ?_
          rw [show ((pf (pn - 2)) ||| (pf (pn - 1))) = (bv_join i (pf (pn - 2)) (pf (pn - 1))) from by unfold bv_join; first | rw [if_pos j0] | rw [if_neg j0, if_pos j1] | (rw [if_neg j0, if_neg j1, if_pos j2]; unfold bv_not; rw [Int32.and_comm (_ ^^^ _) 65535]) | (rw [if_neg j0, if_neg j1, if_neg j2]; unfold bv_not; rw [Int32.and_comm 65535 _])]
          refine bv_ias (pc := 111) hx hb hK hP hD hS 1 0 rfl rfl (by omega) (by omega) dX4_join_111 (fun H locs hP hD hS => ?_)
          have hP : va_P G vwCl [(y, .inr (4, [.int 0, .int (nI (pn - 1)), .ref yp, .int (nI bn), .ref yb, .ref yr, .ref yl])), (yp, .inl (cI, 12, .inl (upd pf (pn - 2) (bv_join i (pf (pn - 2)) (pf (pn - 1)))))), (yb, .inl (cI, 10, .inl bs)), (yr, .inl (cI, 10, .inl br)), (yl, .inl (cI, 16, .inl lv))] H := hP
          have hD : va_D A [(y, .inr (4, [.int 0, .int (nI (pn - 1)), .ref yp, .int (nI bn), .ref yb, .ref yr, .ref yl])), (yp, .inl (cI, 12, .inl (upd pf (pn - 2) (bv_join i (pf (pn - 2)) (pf (pn - 1)))))), (yb, .inl (cI, 10, .inl bs)), (yr, .inl (cI, 10, .inl br)), (yl, .inl (cI, 16, .inl lv))] := hD
          refine lv_aload_n (pc := 112) hx hb dX4_join_112 rfl (lv_at hl 2 rfl) ?_
          refine lv_iconst (pc := 113) (v := 0) hx hb dX4_join_113 (by decide) ?_
          have hPc := hP.sub (ws' := [(y, .inr (4, [.int 0, .int (nI (pn - 1)), .ref yp, .int (nI bn), .ref yb, .ref yr, .ref yl])), (yp, .inl (cI, 12, .inl (upd pf (pn - 2) (bv_join i (pf (pn - 2)) (pf (pn - 1))))))]) [0, 1] rfl
          refine bv_cSi (pc := 114) (E' := (bv_join i (pf (pn - 2)) (pf (pn - 1)))) (va_runV (As := [.int 0]) (rest := []) ⟨hx, hb, hml, hown, hts⟩ (m_X4_top l G cI y yp yb yr yl (pn - 1) 0 (nI bn) (upd pf (pn - 2) (bv_join i (pf (pn - 2)) (pf (pn - 1)))) 0 (by omega) (by omega)) (cwV 1 hts gX4_join_X4_top rfl rfl rfl (by decide +kernel) ⟨Nat.le_of_ble_eq_true rfl, Nat.le_of_ble_eq_true rfl⟩) (bv_pV hE hPc (va_recv hK hP (ci := 4) (q0 := 0) rfl rfl)) rfl rfl hl.1 rfl (lv_room (Nat.le_of_ble_eq_true rfl)) dX4_join_114 ⟨Nat.le_of_ble_eq_true rfl, Nat.le_of_ble_eq_true rfl⟩) (by rw [show pn - 1 - 1 - 0 = pn - 2 by omega]; exact pk_us) ?_
          have hP9 : va_P G vwCl [(y, .inr (4, [.int (nI (if ¬ (0 ≤ i ∧ i ≤ 3) then 1 else (if ¬ (2 ≤ pn) then 2 else 0))), .int (nI (bv_if (if ¬ (0 ≤ i ∧ i ≤ 3) then 1 else (if ¬ (2 ≤ pn) then 2 else 0)) (pn - 1) pn)), .ref yp, .int (nI bn), .ref yb, .ref yr, .ref yl])), (yp, .inl (cI, 12, .inl (bv_if (if ¬ (0 ≤ i ∧ i ≤ 3) then 1 else (if ¬ (2 ≤ pn) then 2 else 0)) (upd pf (pn - 2) (bv_join i (pf (pn - 2)) (pf (pn - 1)))) pf))), (yb, .inl (cI, 10, .inl bs)), (yr, .inl (cI, 10, .inl br)), (yl, .inl (cI, 16, .inl lv))] H := by rw [if_neg (not_not_intro hck0), if_neg (not_not_intro hck1)]; exact hP
          exact W.iret (pc := 117) (v := (bv_join i (pf (pn - 2)) (pf (pn - 1)))) hx hb hr (fun T8 hT8 hW8 => ⟨⟨(bv_join i (pf (pn - 2)) (pf (pn - 1))), (), rfl, (by rw [if_neg (not_not_intro hck0), if_neg (not_not_intro hck1)]; rfl), bv_hP hT8 hP9⟩, hS.F hT8⟩) hS.2.2 dX4_join_117
      · have j0 := c67_9
        refine lv_iload_n (pc := 70) hx hb dX4_join_70 rfl (lv_at hl 1 rfl) ?_
        refine lv_iload_n (pc := 71) hx hb dX4_join_71 rfl (lv_at hl 0 rfl) ?_
        refine lv_iand (pc := 72) hx hb dX4_join_72 ?_
        refine lv_goto (pc := 73) (tgt := 111) hx hb dX4_join_73 (by decide) ?_
        rw [show ((pf (pn - 2)) &&& (pf (pn - 1))) = (bv_join i (pf (pn - 2)) (pf (pn - 1))) from by unfold bv_join; first | rw [if_pos j0] | rw [if_neg j0, if_pos j1] | (rw [if_neg j0, if_neg j1, if_pos j2]; unfold bv_not; rw [Int32.and_comm (_ ^^^ _) 65535]) | (rw [if_neg j0, if_neg j1, if_neg j2]; unfold bv_not; rw [Int32.and_comm 65535 _])]
        refine bv_ias (pc := 111) hx hb hK hP hD hS 1 0 rfl rfl (by omega) (by omega) dX4_join_111 (fun H locs hP hD hS => ?_)
        have hP : va_P G vwCl [(y, .inr (4, [.int 0, .int (nI (pn - 1)), .ref yp, .int (nI bn), .ref yb, .ref yr, .ref yl])), (yp, .inl (cI, 12, .inl (upd pf (pn - 2) (bv_join i (pf (pn - 2)) (pf (pn - 1)))))), (yb, .inl (cI, 10, .inl bs)), (yr, .inl (cI, 10, .inl br)), (yl, .inl (cI, 16, .inl lv))] H := hP
        have hD : va_D A [(y, .inr (4, [.int 0, .int (nI (pn - 1)), .ref yp, .int (nI bn), .ref yb, .ref yr, .ref yl])), (yp, .inl (cI, 12, .inl (upd pf (pn - 2) (bv_join i (pf (pn - 2)) (pf (pn - 1)))))), (yb, .inl (cI, 10, .inl bs)), (yr, .inl (cI, 10, .inl br)), (yl, .inl (cI, 16, .inl lv))] := hD
        refine lv_aload_n (pc := 112) hx hb dX4_join_112 rfl (lv_at hl 2 rfl) ?_
        refine lv_iconst (pc := 113) (v := 0) hx hb dX4_join_113 (by decide) ?_
        have hPc := hP.sub (ws' := [(y, .inr (4, [.int 0, .int (nI (pn - 1)), .ref yp, .int (nI bn), .ref yb, .ref yr, .ref yl])), (yp, .inl (cI, 12, .inl (upd pf (pn - 2) (bv_join i (pf (pn - 2)) (pf (pn - 1))))))]) [0, 1] rfl
        refine bv_cSi (pc := 114) (E' := (bv_join i (pf (pn - 2)) (pf (pn - 1)))) (va_runV (As := [.int 0]) (rest := []) ⟨hx, hb, hml, hown, hts⟩ (m_X4_top l G cI y yp yb yr yl (pn - 1) 0 (nI bn) (upd pf (pn - 2) (bv_join i (pf (pn - 2)) (pf (pn - 1)))) 0 (by omega) (by omega)) (cwV 1 hts gX4_join_X4_top rfl rfl rfl (by decide +kernel) ⟨Nat.le_of_ble_eq_true rfl, Nat.le_of_ble_eq_true rfl⟩) (bv_pV hE hPc (va_recv hK hP (ci := 4) (q0 := 0) rfl rfl)) rfl rfl hl.1 rfl (lv_room (Nat.le_of_ble_eq_true rfl)) dX4_join_114 ⟨Nat.le_of_ble_eq_true rfl, Nat.le_of_ble_eq_true rfl⟩) (by rw [show pn - 1 - 1 - 0 = pn - 2 by omega]; exact pk_us) ?_
        have hP9 : va_P G vwCl [(y, .inr (4, [.int (nI (if ¬ (0 ≤ i ∧ i ≤ 3) then 1 else (if ¬ (2 ≤ pn) then 2 else 0))), .int (nI (bv_if (if ¬ (0 ≤ i ∧ i ≤ 3) then 1 else (if ¬ (2 ≤ pn) then 2 else 0)) (pn - 1) pn)), .ref yp, .int (nI bn), .ref yb, .ref yr, .ref yl])), (yp, .inl (cI, 12, .inl (bv_if (if ¬ (0 ≤ i ∧ i ≤ 3) then 1 else (if ¬ (2 ≤ pn) then 2 else 0)) (upd pf (pn - 2) (bv_join i (pf (pn - 2)) (pf (pn - 1)))) pf))), (yb, .inl (cI, 10, .inl bs)), (yr, .inl (cI, 10, .inl br)), (yl, .inl (cI, 16, .inl lv))] H := by rw [if_neg (not_not_intro hck0), if_neg (not_not_intro hck1)]; exact hP
        exact W.iret (pc := 117) (v := (bv_join i (pf (pn - 2)) (pf (pn - 1)))) hx hb hr (fun T8 hT8 hW8 => ⟨⟨(bv_join i (pf (pn - 2)) (pf (pn - 1))), (), rfl, (by rw [if_neg (not_not_intro hck0), if_neg (not_not_intro hck1)]; rfl), bv_hP hT8 hP9⟩, hS.F hT8⟩) hS.2.2 dX4_join_117
    · have hbad : ¬ 2 ≤ pn := fun h => c25_4 (show nI 2 ≤ nI pn from nI_le h (by omega))
      refine lv_aload_n (pc := 28) hx hb dX4_join_28 rfl (lv_at hl 0 rfl) ?_
      refine lv_iconst (pc := 29) (v := 2) hx hb dX4_join_29 (by decide) ?_
      have hPc := hP.sub (ws' := [(y, .inr (4, [.int 0, .int (nI pn), .ref yp, .int (nI bn), .ref yb, .ref yr, .ref yl]))]) [0] rfl
      have hDc := hD.sub (ws' := [(y, .inr (4, [.int 0, .int (nI pn), .ref yp, .int (nI bn), .ref yb, .ref yr, .ref yl]))]) [0] (by decide) rfl
      have hFc := va_free (wc := [(y, .inr (4, [.int 0, .int (nI pn), .ref yp, .int (nI bn), .ref yb, .ref yr, .ref yl]))]) hD hS hA [0] rfl
      refine bv_cMi (pc := 30) (E' := 0) (va_runV (As := [.int 2]) (rest := []) ⟨hx, hb, hml, hown, hts⟩ (m_X4_no l G cI H.size y yp yb yr yl 0 (nI pn) (nI bn) 2 ) (cwV 1 hts gX4_join_X4_no rfl rfl rfl (by decide +kernel) ⟨Nat.le_of_ble_eq_true rfl, Nat.le_of_ble_eq_true rfl⟩) (bv_pV hE ⟨rfl, hPc, hDc.weaken (fun _ _ _ _ => trivial)⟩ (va_recv hK hP (ci := 4) (q0 := 0) rfl rfl)) rfl rfl hl.1 rfl (lv_room (Nat.le_of_ble_eq_true rfl)) dX4_join_30 ⟨Nat.le_of_ble_eq_true rfl, Nat.le_of_ble_eq_true rfl⟩) hS (fun q _ h => hFc q h) hFc rfl (fun t8 H1 locs ht8 hvm8 hB8 hz1 hk1 hS => ?_)
      have hP1 : va_P G vwCl [(y, .inr (4, [.int 2, .int (nI pn), .ref yp, .int (nI bn), .ref yb, .ref yr, .ref yl]))] H1 := by rw [← ht8]; exact hB8
      obtain ⟨hP, hD⟩ := va_join (wr := [(yp, .inl (cI, 12, .inl pf)), (yb, .inl (cI, 10, .inl bs)), (yr, .inl (cI, 10, .inl br)), (yl, .inl (cI, 16, .inl lv))]) (w1 := [(y, .inr (4, [.int 2, .int (nI pn), .ref yp, .int (nI bn), .ref yb, .ref yr, .ref yl]))]) hP hD [0] [1, 2, 3, 4] rfl rfl (by decide) (by decide) hk1 hFc hP1 (bv_Dm (w0 := [(y, .inr (4, [.int 0, .int (nI pn), .ref yp, .int (nI bn), .ref yb, .ref yr, .ref yl]))]) [y] rfl rfl hDc.self)
      have hP : va_P G vwCl [(y, .inr (4, [.int 2, .int (nI pn), .ref yp, .int (nI bn), .ref yb, .ref yr, .ref yl])), (yp, .inl (cI, 12, .inl pf)), (yb, .inl (cI, 10, .inl bs)), (yr, .inl (cI, 10, .inl br)), (yl, .inl (cI, 16, .inl lv))] H1 := hP.sub (ws' := [(y, .inr (4, [.int 2, .int (nI pn), .ref yp, .int (nI bn), .ref yb, .ref yr, .ref yl])), (yp, .inl (cI, 12, .inl pf)), (yb, .inl (cI, 10, .inl bs)), (yr, .inl (cI, 10, .inl br)), (yl, .inl (cI, 16, .inl lv))]) [4, 0, 1, 2, 3] rfl
      have hD : va_D A [(y, .inr (4, [.int 2, .int (nI pn), .ref yp, .int (nI bn), .ref yb, .ref yr, .ref yl])), (yp, .inl (cI, 12, .inl pf)), (yb, .inl (cI, 10, .inl bs)), (yr, .inl (cI, 10, .inl br)), (yl, .inl (cI, 16, .inl lv))] := hD.sub (ws' := [(y, .inr (4, [.int 2, .int (nI pn), .ref yp, .int (nI bn), .ref yb, .ref yr, .ref yl])), (yp, .inl (cI, 12, .inl pf)), (yb, .inl (cI, 10, .inl bs)), (yr, .inl (cI, 10, .inl br)), (yl, .inl (cI, 16, .inl lv))]) [4, 0, 1, 2, 3] (by decide) rfl
      generalize H1 = H at hP hS ⊢
      have hP9 : va_P G vwCl [(y, .inr (4, [.int (nI (if ¬ (0 ≤ i ∧ i ≤ 3) then 1 else (if ¬ (2 ≤ pn) then 2 else 0))), .int (nI (bv_if (if ¬ (0 ≤ i ∧ i ≤ 3) then 1 else (if ¬ (2 ≤ pn) then 2 else 0)) (pn - 1) pn)), .ref yp, .int (nI bn), .ref yb, .ref yr, .ref yl])), (yp, .inl (cI, 12, .inl (bv_if (if ¬ (0 ≤ i ∧ i ≤ 3) then 1 else (if ¬ (2 ≤ pn) then 2 else 0)) (upd pf (pn - 2) (bv_join i (pf (pn - 2)) (pf (pn - 1)))) pf))), (yb, .inl (cI, 10, .inl bs)), (yr, .inl (cI, 10, .inl br)), (yl, .inl (cI, 16, .inl lv))] H := by rw [if_neg (not_not_intro hck0), if_pos hbad]; exact hP
      exact W.iret (pc := 33) (v := 0) hx hb hr (fun T8 hT8 hW8 => ⟨⟨0, (), rfl, (by rw [if_neg (not_not_intro hck0), if_pos hbad]; rfl), bv_hP hT8 hP9⟩, hS.F hT8⟩) hS.2.2 dX4_join_33
  · have hbad := of_decide_eq_false (bv_b0.mp c11_3)
    refine lv_aload_n (pc := 14) hx hb dX4_join_14 rfl (lv_at hl 0 rfl) ?_
    refine lv_iconst (pc := 15) (v := 1) hx hb dX4_join_15 (by decide) ?_
    have hPc := hP.sub (ws' := [(y, .inr (4, [.int 0, .int (nI pn), .ref yp, .int (nI bn), .ref yb, .ref yr, .ref yl]))]) [0] rfl
    have hDc := hD.sub (ws' := [(y, .inr (4, [.int 0, .int (nI pn), .ref yp, .int (nI bn), .ref yb, .ref yr, .ref yl]))]) [0] (by decide) rfl
    have hFc := va_free (wc := [(y, .inr (4, [.int 0, .int (nI pn), .ref yp, .int (nI bn), .ref yb, .ref yr, .ref yl]))]) hD hS hA [0] rfl
    refine bv_cMi (pc := 16) (E' := 0) (va_runV (As := [.int 1]) (rest := []) ⟨hx, hb, hml, hown, hts⟩ (m_X4_no l G cI H.size y yp yb yr yl 0 (nI pn) (nI bn) 1 ) (cwV 1 hts gX4_join_X4_no rfl rfl rfl (by decide +kernel) ⟨Nat.le_of_ble_eq_true rfl, Nat.le_of_ble_eq_true rfl⟩) (bv_pV hE ⟨rfl, hPc, hDc.weaken (fun _ _ _ _ => trivial)⟩ (va_recv hK hP (ci := 4) (q0 := 0) rfl rfl)) rfl rfl hl.1 rfl (lv_room (Nat.le_of_ble_eq_true rfl)) dX4_join_16 ⟨Nat.le_of_ble_eq_true rfl, Nat.le_of_ble_eq_true rfl⟩) hS (fun q _ h => hFc q h) hFc rfl (fun t8 H1 locs ht8 hvm8 hB8 hz1 hk1 hS => ?_)
    have hP1 : va_P G vwCl [(y, .inr (4, [.int 1, .int (nI pn), .ref yp, .int (nI bn), .ref yb, .ref yr, .ref yl]))] H1 := by rw [← ht8]; exact hB8
    obtain ⟨hP, hD⟩ := va_join (wr := [(yp, .inl (cI, 12, .inl pf)), (yb, .inl (cI, 10, .inl bs)), (yr, .inl (cI, 10, .inl br)), (yl, .inl (cI, 16, .inl lv))]) (w1 := [(y, .inr (4, [.int 1, .int (nI pn), .ref yp, .int (nI bn), .ref yb, .ref yr, .ref yl]))]) hP hD [0] [1, 2, 3, 4] rfl rfl (by decide) (by decide) hk1 hFc hP1 (bv_Dm (w0 := [(y, .inr (4, [.int 0, .int (nI pn), .ref yp, .int (nI bn), .ref yb, .ref yr, .ref yl]))]) [y] rfl rfl hDc.self)
    have hP : va_P G vwCl [(y, .inr (4, [.int 1, .int (nI pn), .ref yp, .int (nI bn), .ref yb, .ref yr, .ref yl])), (yp, .inl (cI, 12, .inl pf)), (yb, .inl (cI, 10, .inl bs)), (yr, .inl (cI, 10, .inl br)), (yl, .inl (cI, 16, .inl lv))] H1 := hP.sub (ws' := [(y, .inr (4, [.int 1, .int (nI pn), .ref yp, .int (nI bn), .ref yb, .ref yr, .ref yl])), (yp, .inl (cI, 12, .inl pf)), (yb, .inl (cI, 10, .inl bs)), (yr, .inl (cI, 10, .inl br)), (yl, .inl (cI, 16, .inl lv))]) [4, 0, 1, 2, 3] rfl
    have hD : va_D A [(y, .inr (4, [.int 1, .int (nI pn), .ref yp, .int (nI bn), .ref yb, .ref yr, .ref yl])), (yp, .inl (cI, 12, .inl pf)), (yb, .inl (cI, 10, .inl bs)), (yr, .inl (cI, 10, .inl br)), (yl, .inl (cI, 16, .inl lv))] := hD.sub (ws' := [(y, .inr (4, [.int 1, .int (nI pn), .ref yp, .int (nI bn), .ref yb, .ref yr, .ref yl])), (yp, .inl (cI, 12, .inl pf)), (yb, .inl (cI, 10, .inl bs)), (yr, .inl (cI, 10, .inl br)), (yl, .inl (cI, 16, .inl lv))]) [4, 0, 1, 2, 3] (by decide) rfl
    generalize H1 = H at hP hS ⊢
    have hP9 : va_P G vwCl [(y, .inr (4, [.int (nI (if ¬ (0 ≤ i ∧ i ≤ 3) then 1 else (if ¬ (2 ≤ pn) then 2 else 0))), .int (nI (bv_if (if ¬ (0 ≤ i ∧ i ≤ 3) then 1 else (if ¬ (2 ≤ pn) then 2 else 0)) (pn - 1) pn)), .ref yp, .int (nI bn), .ref yb, .ref yr, .ref yl])), (yp, .inl (cI, 12, .inl (bv_if (if ¬ (0 ≤ i ∧ i ≤ 3) then 1 else (if ¬ (2 ≤ pn) then 2 else 0)) (upd pf (pn - 2) (bv_join i (pf (pn - 2)) (pf (pn - 1)))) pf))), (yb, .inl (cI, 10, .inl bs)), (yr, .inl (cI, 10, .inl br)), (yl, .inl (cI, 16, .inl lv))] H := by rw [if_pos hbad]; exact hP
    exact W.iret (pc := 19) (v := 0) hx hb hr (fun T8 hT8 hW8 => ⟨⟨0, (), rfl, (by rw [if_pos hbad]; rfl), bv_hP hT8 hP9⟩, hS.F hT8⟩) hS.2.2 dX4_join_19
set_option maxHeartbeats 4000000 in
set_option maxRecDepth 100000 in
theorem m_X4_add (l : Launch) (G : va_G) (cI : ClassId) (sz : Nat) (y yp yb yr yl pn bn : Nat) (th : Int32) (pf bs br lv : Nat → Int32) (r : Int32) (hp : pn ≤ 12) (hn : bn ≤ 10) : Met l yX4_add wsX4_add ({ frames := 1, cells := 0, slots := 0, locals := 22 }) (bv_P [.ref y, .int r] G cI (fun H => H.size = sz ∧ va_P G vwCl [(y, .inr (4, [.int th, .int (nI pn), .ref yp, .int (nI bn), .ref yb, .ref yr, .ref yl])), (yp, .inl (cI, 12, .inl pf)), (yb, .inl (cI, 10, .inl bs)), (yr, .inl (cI, 10, .inl br)), (yl, .inl (cI, 16, .inl lv))] H ∧ va_D (fun _ => True) [(y, .inr (4, [.int th, .int (nI pn), .ref yp, .int (nI bn), .ref yb, .ref yr, .ref yl])), (yp, .inl (cI, 12, .inl pf)), (yb, .inl (cI, 10, .inl bs)), (yr, .inl (cI, 10, .inl br)), (yl, .inl (cI, 16, .inl lv))])) (va_Qi (fun (r9 : Int32) (_ : Unit) => r9 = (bv_if (if ¬ (1 ≤ r ∧ r ≤ 9) then 1 else (if ¬ (1 ≤ pn) then 2 else (if ¬ (bn < 10) then 2 else 0))) (nI bn) 0)) (fun (_ : Unit) (T9 : State) => va_P G vwCl [(y, .inr (4, [.int (nI (if ¬ (1 ≤ r ∧ r ≤ 9) then 1 else (if ¬ (1 ≤ pn) then 2 else (if ¬ (bn < 10) then 2 else 0)))), .int (nI pn), .ref yp, .int (nI (bv_if (if ¬ (1 ≤ r ∧ r ≤ 9) then 1 else (if ¬ (1 ≤ pn) then 2 else (if ¬ (bn < 10) then 2 else 0))) (bn + 1) bn)), .ref yb, .ref yr, .ref yl])), (yp, .inl (cI, 12, .inl pf)), (yb, .inl (cI, 10, .inl (bv_if (if ¬ (1 ≤ r ∧ r ≤ 9) then 1 else (if ¬ (1 ≤ pn) then 2 else (if ¬ (bn < 10) then 2 else 0))) (upd bs bn (pf (pn - 1))) bs))), (yr, .inl (cI, 10, .inl (bv_if (if ¬ (1 ≤ r ∧ r ≤ 9) then 1 else (if ¬ (1 ≤ pn) then 2 else (if ¬ (bn < 10) then 2 else 0))) (upd br bn r) br))), (yl, .inl (cI, 16, .inl lv))] T9.heap) (va_A [(y, .inr (4, [.int th, .int (nI pn), .ref yp, .int (nI bn), .ref yb, .ref yr, .ref yl])), (yp, .inl (cI, 12, .inl pf)), (yb, .inl (cI, 10, .inl bs)), (yr, .inl (cI, 10, .inl br)), (yl, .inl (cI, 16, .inl lv))] sz)) 0 0 (va_A [(y, .inr (4, [.int th, .int (nI pn), .ref yp, .int (nI bn), .ref yb, .ref yr, .ref yl])), (yp, .inl (cI, 12, .inl pf)), (yb, .inl (cI, 10, .inl bs)), (yr, .inl (cI, 10, .inl br)), (yl, .inl (cI, 16, .inl lv))] sz) := by
  refine Met.ofW (cc := cX4_add) (maxL := 2) (ret := (some .int)) (by decide) rfl ?_
  intro p e s m args below meth c s₁ B hml hv
  obtain ⟨rfl, ⟨hsz, hP, hD0⟩, hE⟩ := hv
  have hx := B.exec
  have hb := B.bytes
  have hr := B.returns
  have hts := atoms_spec (ws := wsX4_add) B.pre
  have hown : s.vm.findClass RX4 = some m.cls := findClass_of_methodNamed B.named
  have hlocks := B.notSynchronized
  have hK := hE.1
  have hw0 := hts (.fieldLink RX4 22 "BeliefReviserModel" "thrown" "I") (List.mem_of_getElem? (i := 1) rfl)
  have hw1 : ∀ w ∈ u_ws RX4 TX4 7, w ∈ wsX4_add := by decide +kernel
  have hw2 := hts (.static yX4_isIn) (List.mem_of_getElem? (i := 7) rfl)
  have hw3 := hts (.fieldLink RX4 33 "BeliefReviserModel" "high" "I") (List.mem_of_getElem? (i := 2) rfl)
  have hw4 := hts (.fieldLink RX4 26 "BeliefReviserModel" "size" "I") (List.mem_of_getElem? (i := 3) rfl)
  have hw5 := hts (.fieldLink RX4 13 "BeliefReviserModel" "base" "[I") (List.mem_of_getElem? (i := 4) rfl)
  have hw6 := hts (.fieldLink RX4 16 "BeliefReviserModel" "ranks" "[I") (List.mem_of_getElem? (i := 5) rfl)
  subst hsz
  have hD := hD0.self (sz := s.heap.size)
  generalize hAe : va_A [(y, .inr (4, [.int th, .int (nI pn), .ref yp, .int (nI bn), .ref yb, .ref yr, .ref yl])), (yp, .inl (cI, 12, .inl pf)), (yb, .inl (cI, 10, .inl bs)), (yr, .inl (cI, 10, .inl br)), (yl, .inl (cI, 16, .inl lv))] s.heap.size = A at hD ⊢
  have hA : ∀ q : Nat, s.heap.size ≤ q → A q := fun q h => by rw [← hAe]; exact Or.inr h
  have hS : va_S A s.heap s.heap [] := va_S.rf
  have hP : va_P G vwCl [(y, .inr (4, [.int th, .int (nI pn), .ref yp, .int (nI bn), .ref yb, .ref yr, .ref yl])), (yp, .inl (cI, 12, .inl pf)), (yb, .inl (cI, 10, .inl bs)), (yr, .inl (cI, 10, .inl br)), (yl, .inl (cI, 16, .inl lv))] s.heap := hP
  have hl := lv_entry ([.ref y, .int r]) (n := 2) (Nat.le_of_ble_eq_true rfl)
  rw [lg_entry_eq]
  generalize (lg_sl ([.ref y, .int r]) ++ List.replicate (2 - (lg_sl ([.ref y, .int r])).length) Slot.unset).toArray = ls at hl ⊢
  have hl : lv_has ls 2 [(0, .ref y), (1, .int r)] := hl
  refine lv_aload_n (pc := 0) hx hb dX4_add_0 rfl (lv_at hl 0 rfl) ?_
  refine lv_iconst (pc := 1) (v := 0) hx hb dX4_add_1 (by decide) ?_
  refine va_put (pc := 2) (D := G) (ci := 4) (v := .int 0) (ty := .int) (C := RX4) (T := TX4) (N := 7) hx hb hts hw1 tyX4 tyX4_ok nmX4 hown hK hP hD hS 0 rfl rfl 0 (by decide) hw0 (fun _ h9 => h9) rfl (by decide +kernel) rfl rfl (Nat.le_of_ble_eq_true rfl) dX4_add_2 (fun H locs hP hD hS => ?_)
  have hP : va_P G vwCl [(y, .inr (4, [.int 0, .int (nI pn), .ref yp, .int (nI bn), .ref yb, .ref yr, .ref yl])), (yp, .inl (cI, 12, .inl pf)), (yb, .inl (cI, 10, .inl bs)), (yr, .inl (cI, 10, .inl br)), (yl, .inl (cI, 16, .inl lv))] H := hP
  have hD : va_D A [(y, .inr (4, [.int 0, .int (nI pn), .ref yp, .int (nI bn), .ref yb, .ref yr, .ref yl])), (yp, .inl (cI, 12, .inl pf)), (yb, .inl (cI, 10, .inl bs)), (yr, .inl (cI, 10, .inl br)), (yl, .inl (cI, 16, .inl lv))] := hD
  refine lv_iload_n (pc := 5) hx hb dX4_add_5 rfl (lv_at hl 1 rfl) ?_
  refine lv_iconst (pc := 6) (v := 1) hx hb dX4_add_6 (by decide) ?_
  refine lv_bipush (pc := 7) (v := 9) hx hb dX4_add_7 (by decide) ?_
  have hPc := hP.sub (ws' := []) [] rfl
  refine bv_cSi (pc := 9) (E' := (bv_b (decide (1 ≤ r ∧ r ≤ 9)))) (va_runS (As := [.int r, .int 1, .int 9]) (rest := []) ⟨hx, hb, hml, hown, hts⟩ (m_X4_isIn l G cI r 1 9 ) (va_cwS 3 hts gX4_add_X4_isIn rfl rfl rfl (by decide +kernel) ⟨Nat.le_of_ble_eq_true rfl, Nat.le_of_ble_eq_true rfl⟩) (bv_pS hE hPc) rfl rfl hl.1 rfl (lv_room (Nat.le_of_ble_eq_true rfl)) dX4_add_9 ⟨Nat.le_of_ble_eq_true rfl, Nat.le_of_ble_eq_true rfl⟩) rfl ?_
  refine lv_if_ne (pc := 12) (tgt := 21) hx hb dX4_add_12 (by decide) (fun c12_3 => ?_) (fun c12_3 => ?_)
  · have hck0 := of_decide_eq_true (bv_b1.mp c12_3)
    refine lv_aload_n (pc := 21) hx hb dX4_add_21 rfl (lv_at hl 0 rfl) ?_
    refine va_get (pc := 22) (D := G) (ci := 4) (v := .int (nI pn)) (C := RX4) (T := TX4) (N := 7) hx hb hts hw1 hown hK hP 0 rfl rfl 1 (by decide) hw3 (fun _ h9 => h9) rfl dX4_add_22 ?_
    refine lv_if_eq (pc := 25) (tgt := 37) hx hb dX4_add_25 (by decide) (fun c25_4 => ?_) (fun c25_4 => ?_)
    · have hbad : ¬ 1 ≤ pn := by
        have h : pn = 0 := (bv_pn0 (by omega)).mp c25_4
        omega
      refine lv_aload_n (pc := 37) hx hb dX4_add_37 rfl (lv_at hl 0 rfl) ?_
      refine lv_iconst (pc := 38) (v := 2) hx hb dX4_add_38 (by decide) ?_
      have hPc := hP.sub (ws' := [(y, .inr (4, [.int 0, .int (nI pn), .ref yp, .int (nI bn), .ref yb, .ref yr, .ref yl]))]) [0] rfl
      have hDc := hD.sub (ws' := [(y, .inr (4, [.int 0, .int (nI pn), .ref yp, .int (nI bn), .ref yb, .ref yr, .ref yl]))]) [0] (by decide) rfl
      have hFc := va_free (wc := [(y, .inr (4, [.int 0, .int (nI pn), .ref yp, .int (nI bn), .ref yb, .ref yr, .ref yl]))]) hD hS hA [0] rfl
      refine bv_cMi (pc := 39) (E' := 0) (va_runV (As := [.int 2]) (rest := []) ⟨hx, hb, hml, hown, hts⟩ (m_X4_no l G cI H.size y yp yb yr yl 0 (nI pn) (nI bn) 2 ) (cwV 1 hts gX4_add_X4_no rfl rfl rfl (by decide +kernel) ⟨Nat.le_of_ble_eq_true rfl, Nat.le_of_ble_eq_true rfl⟩) (bv_pV hE ⟨rfl, hPc, hDc.weaken (fun _ _ _ _ => trivial)⟩ (va_recv hK hP (ci := 4) (q0 := 0) rfl rfl)) rfl rfl hl.1 rfl (lv_room (Nat.le_of_ble_eq_true rfl)) dX4_add_39 ⟨Nat.le_of_ble_eq_true rfl, Nat.le_of_ble_eq_true rfl⟩) hS (fun q _ h => hFc q h) hFc rfl (fun t8 H1 locs ht8 hvm8 hB8 hz1 hk1 hS => ?_)
      have hP1 : va_P G vwCl [(y, .inr (4, [.int 2, .int (nI pn), .ref yp, .int (nI bn), .ref yb, .ref yr, .ref yl]))] H1 := by rw [← ht8]; exact hB8
      obtain ⟨hP, hD⟩ := va_join (wr := [(yp, .inl (cI, 12, .inl pf)), (yb, .inl (cI, 10, .inl bs)), (yr, .inl (cI, 10, .inl br)), (yl, .inl (cI, 16, .inl lv))]) (w1 := [(y, .inr (4, [.int 2, .int (nI pn), .ref yp, .int (nI bn), .ref yb, .ref yr, .ref yl]))]) hP hD [0] [1, 2, 3, 4] rfl rfl (by decide) (by decide) hk1 hFc hP1 (bv_Dm (w0 := [(y, .inr (4, [.int 0, .int (nI pn), .ref yp, .int (nI bn), .ref yb, .ref yr, .ref yl]))]) [y] rfl rfl hDc.self)
      have hP : va_P G vwCl [(y, .inr (4, [.int 2, .int (nI pn), .ref yp, .int (nI bn), .ref yb, .ref yr, .ref yl])), (yp, .inl (cI, 12, .inl pf)), (yb, .inl (cI, 10, .inl bs)), (yr, .inl (cI, 10, .inl br)), (yl, .inl (cI, 16, .inl lv))] H1 := hP.sub (ws' := [(y, .inr (4, [.int 2, .int (nI pn), .ref yp, .int (nI bn), .ref yb, .ref yr, .ref yl])), (yp, .inl (cI, 12, .inl pf)), (yb, .inl (cI, 10, .inl bs)), (yr, .inl (cI, 10, .inl br)), (yl, .inl (cI, 16, .inl lv))]) [4, 0, 1, 2, 3] rfl
      have hD : va_D A [(y, .inr (4, [.int 2, .int (nI pn), .ref yp, .int (nI bn), .ref yb, .ref yr, .ref yl])), (yp, .inl (cI, 12, .inl pf)), (yb, .inl (cI, 10, .inl bs)), (yr, .inl (cI, 10, .inl br)), (yl, .inl (cI, 16, .inl lv))] := hD.sub (ws' := [(y, .inr (4, [.int 2, .int (nI pn), .ref yp, .int (nI bn), .ref yb, .ref yr, .ref yl])), (yp, .inl (cI, 12, .inl pf)), (yb, .inl (cI, 10, .inl bs)), (yr, .inl (cI, 10, .inl br)), (yl, .inl (cI, 16, .inl lv))]) [4, 0, 1, 2, 3] (by decide) rfl
      generalize H1 = H at hP hS ⊢
      have hP9 : va_P G vwCl [(y, .inr (4, [.int (nI (if ¬ (1 ≤ r ∧ r ≤ 9) then 1 else (if ¬ (1 ≤ pn) then 2 else (if ¬ (bn < 10) then 2 else 0)))), .int (nI pn), .ref yp, .int (nI (bv_if (if ¬ (1 ≤ r ∧ r ≤ 9) then 1 else (if ¬ (1 ≤ pn) then 2 else (if ¬ (bn < 10) then 2 else 0))) (bn + 1) bn)), .ref yb, .ref yr, .ref yl])), (yp, .inl (cI, 12, .inl pf)), (yb, .inl (cI, 10, .inl (bv_if (if ¬ (1 ≤ r ∧ r ≤ 9) then 1 else (if ¬ (1 ≤ pn) then 2 else (if ¬ (bn < 10) then 2 else 0))) (upd bs bn (pf (pn - 1))) bs))), (yr, .inl (cI, 10, .inl (bv_if (if ¬ (1 ≤ r ∧ r ≤ 9) then 1 else (if ¬ (1 ≤ pn) then 2 else (if ¬ (bn < 10) then 2 else 0))) (upd br bn r) br))), (yl, .inl (cI, 16, .inl lv))] H := by rw [if_neg (not_not_intro hck0), if_pos hbad]; exact hP
      exact W.iret (pc := 42) (v := 0) hx hb hr (fun T8 hT8 hW8 => ⟨⟨0, (), rfl, (by rw [if_neg (not_not_intro hck0), if_pos hbad]; rfl), bv_hP hT8 hP9⟩, hS.F hT8⟩) hS.2.2 dX4_add_42
    · have hck1 : 1 ≤ pn := by
        by_cases h : pn = 0
        · exact absurd (by rw [h]; rfl) c25_4
        · omega
      refine lv_aload_n (pc := 28) hx hb dX4_add_28 rfl (lv_at hl 0 rfl) ?_
      refine va_get (pc := 29) (D := G) (ci := 4) (v := .int (nI bn)) (C := RX4) (T := TX4) (N := 7) hx hb hts hw1 hown hK hP 0 rfl rfl 3 (by decide) hw4 (fun _ h9 => h9) rfl dX4_add_29 ?_
      refine lv_bipush (pc := 32) (v := 10) hx hb dX4_add_32 (by decide) ?_
      refine lv_icmp_ne (pc := 34) (tgt := 43) hx hb dX4_add_34 (by decide) (fun c34_7 => ?_) (fun c34_7 => ?_)
      · have hck2 : bn < 10 := by
          by_cases h : bn = 10
          · exact absurd (by rw [h]; rfl) c34_7
          · omega
        refine lv_aload_n (pc := 43) hx hb dX4_add_43 rfl (lv_at hl 0 rfl) ?_
        refine va_get (pc := 44) (D := G) (ci := 4) (v := .ref yb) (C := RX4) (T := TX4) (N := 7) hx hb hts hw1 hown hK hP 0 rfl rfl 4 (by decide) hw5 (fun _ h9 => h9) rfl dX4_add_44 ?_
        refine lv_aload_n (pc := 47) hx hb dX4_add_47 rfl (lv_at hl 0 rfl) ?_
        refine va_get (pc := 48) (D := G) (ci := 4) (v := .int (nI bn)) (C := RX4) (T := TX4) (N := 7) hx hb hts hw1 hown hK hP 0 rfl rfl 3 (by decide) hw4 (fun _ h9 => h9) rfl dX4_add_48 ?_
        refine lv_aload_n (pc := 51) hx hb dX4_add_51 rfl (lv_at hl 0 rfl) ?_
        refine lv_iconst (pc := 52) (v := 0) hx hb dX4_add_52 (by decide) ?_
        have hPc := hP.sub (ws' := [(y, .inr (4, [.int 0, .int (nI pn), .ref yp, .int (nI bn), .ref yb, .ref yr, .ref yl])), (yp, .inl (cI, 12, .inl pf))]) [0, 1] rfl
        refine bv_cSi (pc := 53) (E' := (pf (pn - 1))) (va_runV (As := [.int 0]) (rest := [.int (nI bn), .ref yb]) ⟨hx, hb, hml, hown, hts⟩ (m_X4_top l G cI y yp yb yr yl pn 0 (nI bn) pf 0 hck1 hp) (cwV 1 hts gX4_add_X4_top rfl rfl rfl (by decide +kernel) ⟨Nat.le_of_ble_eq_true rfl, Nat.le_of_ble_eq_true rfl⟩) (bv_pV hE hPc (va_recv hK hP (ci := 4) (q0 := 0) rfl rfl)) rfl rfl hl.1 rfl (lv_room (Nat.le_of_ble_eq_true rfl)) dX4_add_53 ⟨Nat.le_of_ble_eq_true rfl, Nat.le_of_ble_eq_true rfl⟩) (by rw [Nat.sub_zero]) ?_
        refine bv_ias (pc := 56) hx hb hK hP hD hS 2 0 rfl rfl (by omega) (by omega) dX4_add_56 (fun H locs hP hD hS => ?_)
        have hP : va_P G vwCl [(y, .inr (4, [.int 0, .int (nI pn), .ref yp, .int (nI bn), .ref yb, .ref yr, .ref yl])), (yp, .inl (cI, 12, .inl pf)), (yb, .inl (cI, 10, .inl (upd bs bn (pf (pn - 1))))), (yr, .inl (cI, 10, .inl br)), (yl, .inl (cI, 16, .inl lv))] H := hP
        have hD : va_D A [(y, .inr (4, [.int 0, .int (nI pn), .ref yp, .int (nI bn), .ref yb, .ref yr, .ref yl])), (yp, .inl (cI, 12, .inl pf)), (yb, .inl (cI, 10, .inl (upd bs bn (pf (pn - 1))))), (yr, .inl (cI, 10, .inl br)), (yl, .inl (cI, 16, .inl lv))] := hD
        refine lv_aload_n (pc := 57) hx hb dX4_add_57 rfl (lv_at hl 0 rfl) ?_
        refine va_get (pc := 58) (D := G) (ci := 4) (v := .ref yr) (C := RX4) (T := TX4) (N := 7) hx hb hts hw1 hown hK hP 0 rfl rfl 5 (by decide) hw6 (fun _ h9 => h9) rfl dX4_add_58 ?_
        refine lv_aload_n (pc := 61) hx hb dX4_add_61 rfl (lv_at hl 0 rfl) ?_
        refine va_get (pc := 62) (D := G) (ci := 4) (v := .int (nI bn)) (C := RX4) (T := TX4) (N := 7) hx hb hts hw1 hown hK hP 0 rfl rfl 3 (by decide) hw4 (fun _ h9 => h9) rfl dX4_add_62 ?_
        refine lv_iload_n (pc := 65) hx hb dX4_add_65 rfl (lv_at hl 1 rfl) ?_
        refine bv_ias (pc := 66) hx hb hK hP hD hS 3 0 rfl rfl (by omega) (by omega) dX4_add_66 (fun H locs hP hD hS => ?_)
        have hP : va_P G vwCl [(y, .inr (4, [.int 0, .int (nI pn), .ref yp, .int (nI bn), .ref yb, .ref yr, .ref yl])), (yp, .inl (cI, 12, .inl pf)), (yb, .inl (cI, 10, .inl (upd bs bn (pf (pn - 1))))), (yr, .inl (cI, 10, .inl (upd br bn r))), (yl, .inl (cI, 16, .inl lv))] H := hP
        have hD : va_D A [(y, .inr (4, [.int 0, .int (nI pn), .ref yp, .int (nI bn), .ref yb, .ref yr, .ref yl])), (yp, .inl (cI, 12, .inl pf)), (yb, .inl (cI, 10, .inl (upd bs bn (pf (pn - 1))))), (yr, .inl (cI, 10, .inl (upd br bn r))), (yl, .inl (cI, 16, .inl lv))] := hD
        refine lv_aload_n (pc := 67) hx hb dX4_add_67 rfl (lv_at hl 0 rfl) ?_
        refine lv_dup (pc := 68) hx hb dX4_add_68 rfl ?_
        refine va_get (pc := 69) (D := G) (ci := 4) (v := .int (nI bn)) (C := RX4) (T := TX4) (N := 7) hx hb hts hw1 hown hK hP 0 rfl rfl 3 (by decide) hw4 (fun _ h9 => h9) rfl dX4_add_69 ?_
        refine lv_iconst (pc := 72) (v := 1) hx hb dX4_add_72 (by decide) ?_
        refine lv_iadd (pc := 73) hx hb dX4_add_73 ?_
        rw [show ((nI bn) + 1) = (nI (bn + 1)) from nI_1 bn]
        refine va_put (pc := 74) (D := G) (ci := 4) (v := .int (nI (bn + 1))) (ty := .int) (C := RX4) (T := TX4) (N := 7) hx hb hts hw1 tyX4 tyX4_ok nmX4 hown hK hP hD hS 0 rfl rfl 3 (by decide) hw4 (fun _ h9 => h9) rfl (by decide +kernel) rfl rfl (Nat.le_of_ble_eq_true rfl) dX4_add_74 (fun H locs hP hD hS => ?_)
        have hP : va_P G vwCl [(y, .inr (4, [.int 0, .int (nI pn), .ref yp, .int (nI (bn + 1)), .ref yb, .ref yr, .ref yl])), (yp, .inl (cI, 12, .inl pf)), (yb, .inl (cI, 10, .inl (upd bs bn (pf (pn - 1))))), (yr, .inl (cI, 10, .inl (upd br bn r))), (yl, .inl (cI, 16, .inl lv))] H := hP
        have hD : va_D A [(y, .inr (4, [.int 0, .int (nI pn), .ref yp, .int (nI (bn + 1)), .ref yb, .ref yr, .ref yl])), (yp, .inl (cI, 12, .inl pf)), (yb, .inl (cI, 10, .inl (upd bs bn (pf (pn - 1))))), (yr, .inl (cI, 10, .inl (upd br bn r))), (yl, .inl (cI, 16, .inl lv))] := hD
        refine lv_aload_n (pc := 77) hx hb dX4_add_77 rfl (lv_at hl 0 rfl) ?_
        refine va_get (pc := 78) (D := G) (ci := 4) (v := .int (nI (bn + 1))) (C := RX4) (T := TX4) (N := 7) hx hb hts hw1 hown hK hP 0 rfl rfl 3 (by decide) hw4 (fun _ h9 => h9) rfl dX4_add_78 ?_
        refine lv_iconst (pc := 81) (v := 1) hx hb dX4_add_81 (by decide) ?_
        refine lv_isub (pc := 82) hx hb dX4_add_82 ?_
        have hP9 : va_P G vwCl [(y, .inr (4, [.int (nI (if ¬ (1 ≤ r ∧ r ≤ 9) then 1 else (if ¬ (1 ≤ pn) then 2 else (if ¬ (bn < 10) then 2 else 0)))), .int (nI pn), .ref yp, .int (nI (bv_if (if ¬ (1 ≤ r ∧ r ≤ 9) then 1 else (if ¬ (1 ≤ pn) then 2 else (if ¬ (bn < 10) then 2 else 0))) (bn + 1) bn)), .ref yb, .ref yr, .ref yl])), (yp, .inl (cI, 12, .inl pf)), (yb, .inl (cI, 10, .inl (bv_if (if ¬ (1 ≤ r ∧ r ≤ 9) then 1 else (if ¬ (1 ≤ pn) then 2 else (if ¬ (bn < 10) then 2 else 0))) (upd bs bn (pf (pn - 1))) bs))), (yr, .inl (cI, 10, .inl (bv_if (if ¬ (1 ≤ r ∧ r ≤ 9) then 1 else (if ¬ (1 ≤ pn) then 2 else (if ¬ (bn < 10) then 2 else 0))) (upd br bn r) br))), (yl, .inl (cI, 16, .inl lv))] H := by rw [if_neg (not_not_intro hck0), if_neg (not_not_intro hck1), if_neg (not_not_intro hck2)]; exact hP
        exact W.iret (pc := 83) (v := ((nI (bn + 1)) - 1)) hx hb hr (fun T8 hT8 hW8 => ⟨⟨((nI (bn + 1)) - 1), (), rfl, (by rw [if_neg (not_not_intro hck0), if_neg (not_not_intro hck1), if_neg (not_not_intro hck2), show (1 : Int32) = nI 1 from rfl, bv_sub (by omega), Nat.add_sub_cancel]; rfl), bv_hP hT8 hP9⟩, hS.F hT8⟩) hS.2.2 dX4_add_83
      · have hbad : ¬ bn < 10 := by
          have h : bn = 10 := (nI_eq (b := 10) (by omega) (by decide)).mp c34_7
          omega
        refine lv_aload_n (pc := 37) hx hb dX4_add_37 rfl (lv_at hl 0 rfl) ?_
        refine lv_iconst (pc := 38) (v := 2) hx hb dX4_add_38 (by decide) ?_
        have hPc := hP.sub (ws' := [(y, .inr (4, [.int 0, .int (nI pn), .ref yp, .int (nI bn), .ref yb, .ref yr, .ref yl]))]) [0] rfl
        have hDc := hD.sub (ws' := [(y, .inr (4, [.int 0, .int (nI pn), .ref yp, .int (nI bn), .ref yb, .ref yr, .ref yl]))]) [0] (by decide) rfl
        have hFc := va_free (wc := [(y, .inr (4, [.int 0, .int (nI pn), .ref yp, .int (nI bn), .ref yb, .ref yr, .ref yl]))]) hD hS hA [0] rfl
        refine bv_cMi (pc := 39) (E' := 0) (va_runV (As := [.int 2]) (rest := []) ⟨hx, hb, hml, hown, hts⟩ (m_X4_no l G cI H.size y yp yb yr yl 0 (nI pn) (nI bn) 2 ) (cwV 1 hts gX4_add_X4_no rfl rfl rfl (by decide +kernel) ⟨Nat.le_of_ble_eq_true rfl, Nat.le_of_ble_eq_true rfl⟩) (bv_pV hE ⟨rfl, hPc, hDc.weaken (fun _ _ _ _ => trivial)⟩ (va_recv hK hP (ci := 4) (q0 := 0) rfl rfl)) rfl rfl hl.1 rfl (lv_room (Nat.le_of_ble_eq_true rfl)) dX4_add_39 ⟨Nat.le_of_ble_eq_true rfl, Nat.le_of_ble_eq_true rfl⟩) hS (fun q _ h => hFc q h) hFc rfl (fun t8 H1 locs ht8 hvm8 hB8 hz1 hk1 hS => ?_)
        have hP1 : va_P G vwCl [(y, .inr (4, [.int 2, .int (nI pn), .ref yp, .int (nI bn), .ref yb, .ref yr, .ref yl]))] H1 := by rw [← ht8]; exact hB8
        obtain ⟨hP, hD⟩ := va_join (wr := [(yp, .inl (cI, 12, .inl pf)), (yb, .inl (cI, 10, .inl bs)), (yr, .inl (cI, 10, .inl br)), (yl, .inl (cI, 16, .inl lv))]) (w1 := [(y, .inr (4, [.int 2, .int (nI pn), .ref yp, .int (nI bn), .ref yb, .ref yr, .ref yl]))]) hP hD [0] [1, 2, 3, 4] rfl rfl (by decide) (by decide) hk1 hFc hP1 (bv_Dm (w0 := [(y, .inr (4, [.int 0, .int (nI pn), .ref yp, .int (nI bn), .ref yb, .ref yr, .ref yl]))]) [y] rfl rfl hDc.self)
        have hP : va_P G vwCl [(y, .inr (4, [.int 2, .int (nI pn), .ref yp, .int (nI bn), .ref yb, .ref yr, .ref yl])), (yp, .inl (cI, 12, .inl pf)), (yb, .inl (cI, 10, .inl bs)), (yr, .inl (cI, 10, .inl br)), (yl, .inl (cI, 16, .inl lv))] H1 := hP.sub (ws' := [(y, .inr (4, [.int 2, .int (nI pn), .ref yp, .int (nI bn), .ref yb, .ref yr, .ref yl])), (yp, .inl (cI, 12, .inl pf)), (yb, .inl (cI, 10, .inl bs)), (yr, .inl (cI, 10, .inl br)), (yl, .inl (cI, 16, .inl lv))]) [4, 0, 1, 2, 3] rfl
        have hD : va_D A [(y, .inr (4, [.int 2, .int (nI pn), .ref yp, .int (nI bn), .ref yb, .ref yr, .ref yl])), (yp, .inl (cI, 12, .inl pf)), (yb, .inl (cI, 10, .inl bs)), (yr, .inl (cI, 10, .inl br)), (yl, .inl (cI, 16, .inl lv))] := hD.sub (ws' := [(y, .inr (4, [.int 2, .int (nI pn), .ref yp, .int (nI bn), .ref yb, .ref yr, .ref yl])), (yp, .inl (cI, 12, .inl pf)), (yb, .inl (cI, 10, .inl bs)), (yr, .inl (cI, 10, .inl br)), (yl, .inl (cI, 16, .inl lv))]) [4, 0, 1, 2, 3] (by decide) rfl
        generalize H1 = H at hP hS ⊢
        have hP9 : va_P G vwCl [(y, .inr (4, [.int (nI (if ¬ (1 ≤ r ∧ r ≤ 9) then 1 else (if ¬ (1 ≤ pn) then 2 else (if ¬ (bn < 10) then 2 else 0)))), .int (nI pn), .ref yp, .int (nI (bv_if (if ¬ (1 ≤ r ∧ r ≤ 9) then 1 else (if ¬ (1 ≤ pn) then 2 else (if ¬ (bn < 10) then 2 else 0))) (bn + 1) bn)), .ref yb, .ref yr, .ref yl])), (yp, .inl (cI, 12, .inl pf)), (yb, .inl (cI, 10, .inl (bv_if (if ¬ (1 ≤ r ∧ r ≤ 9) then 1 else (if ¬ (1 ≤ pn) then 2 else (if ¬ (bn < 10) then 2 else 0))) (upd bs bn (pf (pn - 1))) bs))), (yr, .inl (cI, 10, .inl (bv_if (if ¬ (1 ≤ r ∧ r ≤ 9) then 1 else (if ¬ (1 ≤ pn) then 2 else (if ¬ (bn < 10) then 2 else 0))) (upd br bn r) br))), (yl, .inl (cI, 16, .inl lv))] H := by rw [if_neg (not_not_intro hck0), if_neg (not_not_intro hck1), if_pos hbad]; exact hP
        exact W.iret (pc := 42) (v := 0) hx hb hr (fun T8 hT8 hW8 => ⟨⟨0, (), rfl, (by rw [if_neg (not_not_intro hck0), if_neg (not_not_intro hck1), if_pos hbad]; rfl), bv_hP hT8 hP9⟩, hS.F hT8⟩) hS.2.2 dX4_add_42
  · have hbad := of_decide_eq_false (bv_b0.mp c12_3)
    refine lv_aload_n (pc := 15) hx hb dX4_add_15 rfl (lv_at hl 0 rfl) ?_
    refine lv_iconst (pc := 16) (v := 1) hx hb dX4_add_16 (by decide) ?_
    have hPc := hP.sub (ws' := [(y, .inr (4, [.int 0, .int (nI pn), .ref yp, .int (nI bn), .ref yb, .ref yr, .ref yl]))]) [0] rfl
    have hDc := hD.sub (ws' := [(y, .inr (4, [.int 0, .int (nI pn), .ref yp, .int (nI bn), .ref yb, .ref yr, .ref yl]))]) [0] (by decide) rfl
    have hFc := va_free (wc := [(y, .inr (4, [.int 0, .int (nI pn), .ref yp, .int (nI bn), .ref yb, .ref yr, .ref yl]))]) hD hS hA [0] rfl
    refine bv_cMi (pc := 17) (E' := 0) (va_runV (As := [.int 1]) (rest := []) ⟨hx, hb, hml, hown, hts⟩ (m_X4_no l G cI H.size y yp yb yr yl 0 (nI pn) (nI bn) 1 ) (cwV 1 hts gX4_add_X4_no rfl rfl rfl (by decide +kernel) ⟨Nat.le_of_ble_eq_true rfl, Nat.le_of_ble_eq_true rfl⟩) (bv_pV hE ⟨rfl, hPc, hDc.weaken (fun _ _ _ _ => trivial)⟩ (va_recv hK hP (ci := 4) (q0 := 0) rfl rfl)) rfl rfl hl.1 rfl (lv_room (Nat.le_of_ble_eq_true rfl)) dX4_add_17 ⟨Nat.le_of_ble_eq_true rfl, Nat.le_of_ble_eq_true rfl⟩) hS (fun q _ h => hFc q h) hFc rfl (fun t8 H1 locs ht8 hvm8 hB8 hz1 hk1 hS => ?_)
    have hP1 : va_P G vwCl [(y, .inr (4, [.int 1, .int (nI pn), .ref yp, .int (nI bn), .ref yb, .ref yr, .ref yl]))] H1 := by rw [← ht8]; exact hB8
    obtain ⟨hP, hD⟩ := va_join (wr := [(yp, .inl (cI, 12, .inl pf)), (yb, .inl (cI, 10, .inl bs)), (yr, .inl (cI, 10, .inl br)), (yl, .inl (cI, 16, .inl lv))]) (w1 := [(y, .inr (4, [.int 1, .int (nI pn), .ref yp, .int (nI bn), .ref yb, .ref yr, .ref yl]))]) hP hD [0] [1, 2, 3, 4] rfl rfl (by decide) (by decide) hk1 hFc hP1 (bv_Dm (w0 := [(y, .inr (4, [.int 0, .int (nI pn), .ref yp, .int (nI bn), .ref yb, .ref yr, .ref yl]))]) [y] rfl rfl hDc.self)
    have hP : va_P G vwCl [(y, .inr (4, [.int 1, .int (nI pn), .ref yp, .int (nI bn), .ref yb, .ref yr, .ref yl])), (yp, .inl (cI, 12, .inl pf)), (yb, .inl (cI, 10, .inl bs)), (yr, .inl (cI, 10, .inl br)), (yl, .inl (cI, 16, .inl lv))] H1 := hP.sub (ws' := [(y, .inr (4, [.int 1, .int (nI pn), .ref yp, .int (nI bn), .ref yb, .ref yr, .ref yl])), (yp, .inl (cI, 12, .inl pf)), (yb, .inl (cI, 10, .inl bs)), (yr, .inl (cI, 10, .inl br)), (yl, .inl (cI, 16, .inl lv))]) [4, 0, 1, 2, 3] rfl
    have hD : va_D A [(y, .inr (4, [.int 1, .int (nI pn), .ref yp, .int (nI bn), .ref yb, .ref yr, .ref yl])), (yp, .inl (cI, 12, .inl pf)), (yb, .inl (cI, 10, .inl bs)), (yr, .inl (cI, 10, .inl br)), (yl, .inl (cI, 16, .inl lv))] := hD.sub (ws' := [(y, .inr (4, [.int 1, .int (nI pn), .ref yp, .int (nI bn), .ref yb, .ref yr, .ref yl])), (yp, .inl (cI, 12, .inl pf)), (yb, .inl (cI, 10, .inl bs)), (yr, .inl (cI, 10, .inl br)), (yl, .inl (cI, 16, .inl lv))]) [4, 0, 1, 2, 3] (by decide) rfl
    generalize H1 = H at hP hS ⊢
    have hP9 : va_P G vwCl [(y, .inr (4, [.int (nI (if ¬ (1 ≤ r ∧ r ≤ 9) then 1 else (if ¬ (1 ≤ pn) then 2 else (if ¬ (bn < 10) then 2 else 0)))), .int (nI pn), .ref yp, .int (nI (bv_if (if ¬ (1 ≤ r ∧ r ≤ 9) then 1 else (if ¬ (1 ≤ pn) then 2 else (if ¬ (bn < 10) then 2 else 0))) (bn + 1) bn)), .ref yb, .ref yr, .ref yl])), (yp, .inl (cI, 12, .inl pf)), (yb, .inl (cI, 10, .inl (bv_if (if ¬ (1 ≤ r ∧ r ≤ 9) then 1 else (if ¬ (1 ≤ pn) then 2 else (if ¬ (bn < 10) then 2 else 0))) (upd bs bn (pf (pn - 1))) bs))), (yr, .inl (cI, 10, .inl (bv_if (if ¬ (1 ≤ r ∧ r ≤ 9) then 1 else (if ¬ (1 ≤ pn) then 2 else (if ¬ (bn < 10) then 2 else 0))) (upd br bn r) br))), (yl, .inl (cI, 16, .inl lv))] H := by rw [if_pos hbad]; exact hP
    exact W.iret (pc := 20) (v := 0) hx hb hr (fun T8 hT8 hW8 => ⟨⟨0, (), rfl, (by rw [if_pos hbad]; rfl), bv_hP hT8 hP9⟩, hS.F hT8⟩) hS.2.2 dX4_add_20
set_option maxHeartbeats 4000000 in
set_option maxRecDepth 100000 in
theorem m_X4_setRank (l : Launch) (G : va_G) (cI : ClassId) (sz : Nat) (y yp yb yr yl pn bn : Nat) (th : Int32) (pf bs br lv : Nat → Int32) (i r : Int32) (hp : pn ≤ 12) (hn : bn ≤ 10) : Met l yX4_setRank wsX4_setRank ({ frames := 2, cells := 0, slots := 0, locals := 43 }) (bv_P [.ref y, .int i, .int r] G cI (fun H => H.size = sz ∧ va_P G vwCl [(y, .inr (4, [.int th, .int (nI pn), .ref yp, .int (nI bn), .ref yb, .ref yr, .ref yl])), (yp, .inl (cI, 12, .inl pf)), (yb, .inl (cI, 10, .inl bs)), (yr, .inl (cI, 10, .inl br)), (yl, .inl (cI, 16, .inl lv))] H ∧ va_D (fun _ => True) [(y, .inr (4, [.int th, .int (nI pn), .ref yp, .int (nI bn), .ref yb, .ref yr, .ref yl])), (yp, .inl (cI, 12, .inl pf)), (yb, .inl (cI, 10, .inl bs)), (yr, .inl (cI, 10, .inl br)), (yl, .inl (cI, 16, .inl lv))])) (va_Qi (fun (r9 : Int32) (_ : Unit) => r9 = (bv_if (if ¬ (0 ≤ i ∧ i < nI bn) then 1 else (if ¬ (1 ≤ r ∧ r ≤ 9) then 2 else 0)) (br i.toNatClampNeg) 0)) (fun (_ : Unit) (T9 : State) => va_P G vwCl [(y, .inr (4, [.int (nI (if ¬ (0 ≤ i ∧ i < nI bn) then 1 else (if ¬ (1 ≤ r ∧ r ≤ 9) then 2 else 0))), .int (nI pn), .ref yp, .int (nI bn), .ref yb, .ref yr, .ref yl])), (yp, .inl (cI, 12, .inl pf)), (yb, .inl (cI, 10, .inl bs)), (yr, .inl (cI, 10, .inl (bv_if (if ¬ (0 ≤ i ∧ i < nI bn) then 1 else (if ¬ (1 ≤ r ∧ r ≤ 9) then 2 else 0)) (upd br i.toNatClampNeg r) br))), (yl, .inl (cI, 16, .inl lv))] T9.heap) (va_A [(y, .inr (4, [.int th, .int (nI pn), .ref yp, .int (nI bn), .ref yb, .ref yr, .ref yl])), (yp, .inl (cI, 12, .inl pf)), (yb, .inl (cI, 10, .inl bs)), (yr, .inl (cI, 10, .inl br)), (yl, .inl (cI, 16, .inl lv))] sz)) 0 0 (va_A [(y, .inr (4, [.int th, .int (nI pn), .ref yp, .int (nI bn), .ref yb, .ref yr, .ref yl])), (yp, .inl (cI, 12, .inl pf)), (yb, .inl (cI, 10, .inl bs)), (yr, .inl (cI, 10, .inl br)), (yl, .inl (cI, 16, .inl lv))] sz) := by
  refine Met.ofW (cc := cX4_setRank) (maxL := 4) (ret := (some .int)) (by decide) rfl ?_
  intro p e s m args below meth c s₁ B hml hv
  obtain ⟨rfl, ⟨hsz, hP, hD0⟩, hE⟩ := hv
  have hx := B.exec
  have hb := B.bytes
  have hr := B.returns
  have hts := atoms_spec (ws := wsX4_setRank) B.pre
  have hown : s.vm.findClass RX4 = some m.cls := findClass_of_methodNamed B.named
  have hlocks := B.notSynchronized
  have hK := hE.1
  have hw0 := hts (.fieldLink RX4 22 "BeliefReviserModel" "thrown" "I") (List.mem_of_getElem? (i := 1) rfl)
  have hw1 : ∀ w ∈ u_ws RX4 TX4 7, w ∈ wsX4_setRank := by decide +kernel
  have hw2 := hts (.static yX4_isIn) (List.mem_of_getElem? (i := 10) rfl)
  have hw3 := hts (.fieldLink RX4 16 "BeliefReviserModel" "ranks" "[I") (List.mem_of_getElem? (i := 2) rfl)
  subst hsz
  have hD := hD0.self (sz := s.heap.size)
  generalize hAe : va_A [(y, .inr (4, [.int th, .int (nI pn), .ref yp, .int (nI bn), .ref yb, .ref yr, .ref yl])), (yp, .inl (cI, 12, .inl pf)), (yb, .inl (cI, 10, .inl bs)), (yr, .inl (cI, 10, .inl br)), (yl, .inl (cI, 16, .inl lv))] s.heap.size = A at hD ⊢
  have hA : ∀ q : Nat, s.heap.size ≤ q → A q := fun q h => by rw [← hAe]; exact Or.inr h
  have hS : va_S A s.heap s.heap [] := va_S.rf
  have hP : va_P G vwCl [(y, .inr (4, [.int th, .int (nI pn), .ref yp, .int (nI bn), .ref yb, .ref yr, .ref yl])), (yp, .inl (cI, 12, .inl pf)), (yb, .inl (cI, 10, .inl bs)), (yr, .inl (cI, 10, .inl br)), (yl, .inl (cI, 16, .inl lv))] s.heap := hP
  have hl := lv_entry ([.ref y, .int i, .int r]) (n := 4) (Nat.le_of_ble_eq_true rfl)
  rw [lg_entry_eq]
  generalize (lg_sl ([.ref y, .int i, .int r]) ++ List.replicate (4 - (lg_sl ([.ref y, .int i, .int r])).length) Slot.unset).toArray = ls at hl ⊢
  have hl : lv_has ls 4 [(0, .ref y), (1, .int i), (2, .int r)] := hl
  refine lv_aload_n (pc := 0) hx hb dX4_setRank_0 rfl (lv_at hl 0 rfl) ?_
  refine lv_iconst (pc := 1) (v := 0) hx hb dX4_setRank_1 (by decide) ?_
  refine va_put (pc := 2) (D := G) (ci := 4) (v := .int 0) (ty := .int) (C := RX4) (T := TX4) (N := 7) hx hb hts hw1 tyX4 tyX4_ok nmX4 hown hK hP hD hS 0 rfl rfl 0 (by decide) hw0 (fun _ h9 => h9) rfl (by decide +kernel) rfl rfl (Nat.le_of_ble_eq_true rfl) dX4_setRank_2 (fun H locs hP hD hS => ?_)
  have hP : va_P G vwCl [(y, .inr (4, [.int 0, .int (nI pn), .ref yp, .int (nI bn), .ref yb, .ref yr, .ref yl])), (yp, .inl (cI, 12, .inl pf)), (yb, .inl (cI, 10, .inl bs)), (yr, .inl (cI, 10, .inl br)), (yl, .inl (cI, 16, .inl lv))] H := hP
  have hD : va_D A [(y, .inr (4, [.int 0, .int (nI pn), .ref yp, .int (nI bn), .ref yb, .ref yr, .ref yl])), (yp, .inl (cI, 12, .inl pf)), (yb, .inl (cI, 10, .inl bs)), (yr, .inl (cI, 10, .inl br)), (yl, .inl (cI, 16, .inl lv))] := hD
  refine lv_aload_n (pc := 5) hx hb dX4_setRank_5 rfl (lv_at hl 0 rfl) ?_
  refine lv_iload_n (pc := 6) hx hb dX4_setRank_6 rfl (lv_at hl 1 rfl) ?_
  have hPc := hP.sub (ws' := [(y, .inr (4, [.int 0, .int (nI pn), .ref yp, .int (nI bn), .ref yb, .ref yr, .ref yl]))]) [0] rfl
  refine bv_cSi (pc := 7) (E' := (bv_b (decide (0 ≤ i ∧ i < nI bn)))) (va_runV (As := [.int i]) (rest := []) ⟨hx, hb, hml, hown, hts⟩ (m_X4_isSentence l G cI y yp yb yr yl bn 0 (nI pn) i (by first | assumption | omega)) (cwV 1 hts gX4_setRank_X4_isSentence rfl rfl rfl (by decide +kernel) ⟨Nat.le_of_ble_eq_true rfl, Nat.le_of_ble_eq_true rfl⟩) (bv_pV hE hPc (va_recv hK hP (ci := 4) (q0 := 0) rfl rfl)) rfl rfl hl.1 rfl (lv_room (Nat.le_of_ble_eq_true rfl)) dX4_setRank_7 ⟨Nat.le_of_ble_eq_true rfl, Nat.le_of_ble_eq_true rfl⟩) rfl ?_
  refine lv_if_ne (pc := 10) (tgt := 19) hx hb dX4_setRank_10 (by decide) (fun c10_3 => ?_) (fun c10_3 => ?_)
  · have hck0 := of_decide_eq_true (bv_b1.mp c10_3)
    obtain ⟨j, hj, rfl⟩ := bv_ix hck0.1 hck0.2 (by omega)
    refine lv_iload_n (pc := 19) hx hb dX4_setRank_19 rfl (lv_at hl 2 rfl) ?_
    refine lv_iconst (pc := 20) (v := 1) hx hb dX4_setRank_20 (by decide) ?_
    refine lv_bipush (pc := 21) (v := 9) hx hb dX4_setRank_21 (by decide) ?_
    have hPc := hP.sub (ws' := []) [] rfl
    refine bv_cSi (pc := 23) (E' := (bv_b (decide (1 ≤ r ∧ r ≤ 9)))) (va_runS (As := [.int r, .int 1, .int 9]) (rest := []) ⟨hx, hb, hml, hown, hts⟩ (m_X4_isIn l G cI r 1 9 ) (va_cwS 3 hts gX4_setRank_X4_isIn rfl rfl rfl (by decide +kernel) ⟨Nat.le_of_ble_eq_true rfl, Nat.le_of_ble_eq_true rfl⟩) (bv_pS hE hPc) rfl rfl hl.1 rfl (lv_room (Nat.le_of_ble_eq_true rfl)) dX4_setRank_23 ⟨Nat.le_of_ble_eq_true rfl, Nat.le_of_ble_eq_true rfl⟩) rfl ?_
    refine lv_if_ne (pc := 26) (tgt := 35) hx hb dX4_setRank_26 (by decide) (fun c26_6 => ?_) (fun c26_6 => ?_)
    · have hck1 := of_decide_eq_true (bv_b1.mp c26_6)
      refine lv_aload_n (pc := 35) hx hb dX4_setRank_35 rfl (lv_at hl 0 rfl) ?_
      refine va_get (pc := 36) (D := G) (ci := 4) (v := .ref yr) (C := RX4) (T := TX4) (N := 7) hx hb hts hw1 hown hK hP 0 rfl rfl 5 (by decide) hw3 (fun _ h9 => h9) rfl dX4_setRank_36 ?_
      refine lv_iload_n (pc := 39) hx hb dX4_setRank_39 rfl (lv_at hl 1 rfl) ?_
      refine bv_ial (pc := 40) hx hb hK hP 3 0 rfl rfl (by omega) (by omega) dX4_setRank_40 ?_
      refine lv_istore_n (pc := 41) (lv' := [(3, .int (br j)), (0, .ref y), (1, .int (nI j)), (2, .int r)]) hx hb dX4_setRank_41 rfl hl (by decide) rfl (fun ls hl => ?_)
      refine lv_aload_n (pc := 42) hx hb dX4_setRank_42 rfl (lv_at hl 1 rfl) ?_
      refine va_get (pc := 43) (D := G) (ci := 4) (v := .ref yr) (C := RX4) (T := TX4) (N := 7) hx hb hts hw1 hown hK hP 0 rfl rfl 5 (by decide) hw3 (fun _ h9 => h9) rfl dX4_setRank_43 ?_
      refine lv_iload_n (pc := 46) hx hb dX4_setRank_46 rfl (lv_at hl 2 rfl) ?_
      refine lv_iload_n (pc := 47) hx hb dX4_setRank_47 rfl (lv_at hl 3 rfl) ?_
      refine bv_ias (pc := 48) hx hb hK hP hD hS 3 0 rfl rfl (by omega) (by omega) dX4_setRank_48 (fun H locs hP hD hS => ?_)
      have hP : va_P G vwCl [(y, .inr (4, [.int 0, .int (nI pn), .ref yp, .int (nI bn), .ref yb, .ref yr, .ref yl])), (yp, .inl (cI, 12, .inl pf)), (yb, .inl (cI, 10, .inl bs)), (yr, .inl (cI, 10, .inl (upd br j r))), (yl, .inl (cI, 16, .inl lv))] H := hP
      have hD : va_D A [(y, .inr (4, [.int 0, .int (nI pn), .ref yp, .int (nI bn), .ref yb, .ref yr, .ref yl])), (yp, .inl (cI, 12, .inl pf)), (yb, .inl (cI, 10, .inl bs)), (yr, .inl (cI, 10, .inl (upd br j r))), (yl, .inl (cI, 16, .inl lv))] := hD
      refine lv_iload_n (pc := 49) hx hb dX4_setRank_49 rfl (lv_at hl 0 rfl) ?_
      have hP9 : va_P G vwCl [(y, .inr (4, [.int (nI (if ¬ (0 ≤ (nI j) ∧ (nI j) < nI bn) then 1 else (if ¬ (1 ≤ r ∧ r ≤ 9) then 2 else 0))), .int (nI pn), .ref yp, .int (nI bn), .ref yb, .ref yr, .ref yl])), (yp, .inl (cI, 12, .inl pf)), (yb, .inl (cI, 10, .inl bs)), (yr, .inl (cI, 10, .inl (bv_if (if ¬ (0 ≤ (nI j) ∧ (nI j) < nI bn) then 1 else (if ¬ (1 ≤ r ∧ r ≤ 9) then 2 else 0)) (upd br (nI j).toNatClampNeg r) br))), (yl, .inl (cI, 16, .inl lv))] H := by rw [if_neg (not_not_intro hck0), if_neg (not_not_intro hck1), nI_clamp (by omega)]; exact hP
      exact W.iret (pc := 50) (v := (br j)) hx hb hr (fun T8 hT8 hW8 => ⟨⟨(br j), (), rfl, (by rw [if_neg (not_not_intro hck0), if_neg (not_not_intro hck1), nI_clamp (by omega)]; rfl), bv_hP hT8 hP9⟩, hS.F hT8⟩) hS.2.2 dX4_setRank_50
    · have hbad := of_decide_eq_false (bv_b0.mp c26_6)
      refine lv_aload_n (pc := 29) hx hb dX4_setRank_29 rfl (lv_at hl 0 rfl) ?_
      refine lv_iconst (pc := 30) (v := 2) hx hb dX4_setRank_30 (by decide) ?_
      have hPc := hP.sub (ws' := [(y, .inr (4, [.int 0, .int (nI pn), .ref yp, .int (nI bn), .ref yb, .ref yr, .ref yl]))]) [0] rfl
      have hDc := hD.sub (ws' := [(y, .inr (4, [.int 0, .int (nI pn), .ref yp, .int (nI bn), .ref yb, .ref yr, .ref yl]))]) [0] (by decide) rfl
      have hFc := va_free (wc := [(y, .inr (4, [.int 0, .int (nI pn), .ref yp, .int (nI bn), .ref yb, .ref yr, .ref yl]))]) hD hS hA [0] rfl
      refine bv_cMi (pc := 31) (E' := 0) (va_runV (As := [.int 2]) (rest := []) ⟨hx, hb, hml, hown, hts⟩ (m_X4_no l G cI H.size y yp yb yr yl 0 (nI pn) (nI bn) 2 ) (cwV 1 hts gX4_setRank_X4_no rfl rfl rfl (by decide +kernel) ⟨Nat.le_of_ble_eq_true rfl, Nat.le_of_ble_eq_true rfl⟩) (bv_pV hE ⟨rfl, hPc, hDc.weaken (fun _ _ _ _ => trivial)⟩ (va_recv hK hP (ci := 4) (q0 := 0) rfl rfl)) rfl rfl hl.1 rfl (lv_room (Nat.le_of_ble_eq_true rfl)) dX4_setRank_31 ⟨Nat.le_of_ble_eq_true rfl, Nat.le_of_ble_eq_true rfl⟩) hS (fun q _ h => hFc q h) hFc rfl (fun t8 H1 locs ht8 hvm8 hB8 hz1 hk1 hS => ?_)
      have hP1 : va_P G vwCl [(y, .inr (4, [.int 2, .int (nI pn), .ref yp, .int (nI bn), .ref yb, .ref yr, .ref yl]))] H1 := by rw [← ht8]; exact hB8
      obtain ⟨hP, hD⟩ := va_join (wr := [(yp, .inl (cI, 12, .inl pf)), (yb, .inl (cI, 10, .inl bs)), (yr, .inl (cI, 10, .inl br)), (yl, .inl (cI, 16, .inl lv))]) (w1 := [(y, .inr (4, [.int 2, .int (nI pn), .ref yp, .int (nI bn), .ref yb, .ref yr, .ref yl]))]) hP hD [0] [1, 2, 3, 4] rfl rfl (by decide) (by decide) hk1 hFc hP1 (bv_Dm (w0 := [(y, .inr (4, [.int 0, .int (nI pn), .ref yp, .int (nI bn), .ref yb, .ref yr, .ref yl]))]) [y] rfl rfl hDc.self)
      have hP : va_P G vwCl [(y, .inr (4, [.int 2, .int (nI pn), .ref yp, .int (nI bn), .ref yb, .ref yr, .ref yl])), (yp, .inl (cI, 12, .inl pf)), (yb, .inl (cI, 10, .inl bs)), (yr, .inl (cI, 10, .inl br)), (yl, .inl (cI, 16, .inl lv))] H1 := hP.sub (ws' := [(y, .inr (4, [.int 2, .int (nI pn), .ref yp, .int (nI bn), .ref yb, .ref yr, .ref yl])), (yp, .inl (cI, 12, .inl pf)), (yb, .inl (cI, 10, .inl bs)), (yr, .inl (cI, 10, .inl br)), (yl, .inl (cI, 16, .inl lv))]) [4, 0, 1, 2, 3] rfl
      have hD : va_D A [(y, .inr (4, [.int 2, .int (nI pn), .ref yp, .int (nI bn), .ref yb, .ref yr, .ref yl])), (yp, .inl (cI, 12, .inl pf)), (yb, .inl (cI, 10, .inl bs)), (yr, .inl (cI, 10, .inl br)), (yl, .inl (cI, 16, .inl lv))] := hD.sub (ws' := [(y, .inr (4, [.int 2, .int (nI pn), .ref yp, .int (nI bn), .ref yb, .ref yr, .ref yl])), (yp, .inl (cI, 12, .inl pf)), (yb, .inl (cI, 10, .inl bs)), (yr, .inl (cI, 10, .inl br)), (yl, .inl (cI, 16, .inl lv))]) [4, 0, 1, 2, 3] (by decide) rfl
      generalize H1 = H at hP hS ⊢
      have hP9 : va_P G vwCl [(y, .inr (4, [.int (nI (if ¬ (0 ≤ (nI j) ∧ (nI j) < nI bn) then 1 else (if ¬ (1 ≤ r ∧ r ≤ 9) then 2 else 0))), .int (nI pn), .ref yp, .int (nI bn), .ref yb, .ref yr, .ref yl])), (yp, .inl (cI, 12, .inl pf)), (yb, .inl (cI, 10, .inl bs)), (yr, .inl (cI, 10, .inl (bv_if (if ¬ (0 ≤ (nI j) ∧ (nI j) < nI bn) then 1 else (if ¬ (1 ≤ r ∧ r ≤ 9) then 2 else 0)) (upd br (nI j).toNatClampNeg r) br))), (yl, .inl (cI, 16, .inl lv))] H := by rw [if_neg (not_not_intro hck0), if_pos hbad]; exact hP
      exact W.iret (pc := 34) (v := 0) hx hb hr (fun T8 hT8 hW8 => ⟨⟨0, (), rfl, (by rw [if_neg (not_not_intro hck0), if_pos hbad]; rfl), bv_hP hT8 hP9⟩, hS.F hT8⟩) hS.2.2 dX4_setRank_34
  · have hbad := of_decide_eq_false (bv_b0.mp c10_3)
    refine lv_aload_n (pc := 13) hx hb dX4_setRank_13 rfl (lv_at hl 0 rfl) ?_
    refine lv_iconst (pc := 14) (v := 1) hx hb dX4_setRank_14 (by decide) ?_
    have hPc := hP.sub (ws' := [(y, .inr (4, [.int 0, .int (nI pn), .ref yp, .int (nI bn), .ref yb, .ref yr, .ref yl]))]) [0] rfl
    have hDc := hD.sub (ws' := [(y, .inr (4, [.int 0, .int (nI pn), .ref yp, .int (nI bn), .ref yb, .ref yr, .ref yl]))]) [0] (by decide) rfl
    have hFc := va_free (wc := [(y, .inr (4, [.int 0, .int (nI pn), .ref yp, .int (nI bn), .ref yb, .ref yr, .ref yl]))]) hD hS hA [0] rfl
    refine bv_cMi (pc := 15) (E' := 0) (va_runV (As := [.int 1]) (rest := []) ⟨hx, hb, hml, hown, hts⟩ (m_X4_no l G cI H.size y yp yb yr yl 0 (nI pn) (nI bn) 1 ) (cwV 1 hts gX4_setRank_X4_no rfl rfl rfl (by decide +kernel) ⟨Nat.le_of_ble_eq_true rfl, Nat.le_of_ble_eq_true rfl⟩) (bv_pV hE ⟨rfl, hPc, hDc.weaken (fun _ _ _ _ => trivial)⟩ (va_recv hK hP (ci := 4) (q0 := 0) rfl rfl)) rfl rfl hl.1 rfl (lv_room (Nat.le_of_ble_eq_true rfl)) dX4_setRank_15 ⟨Nat.le_of_ble_eq_true rfl, Nat.le_of_ble_eq_true rfl⟩) hS (fun q _ h => hFc q h) hFc rfl (fun t8 H1 locs ht8 hvm8 hB8 hz1 hk1 hS => ?_)
    have hP1 : va_P G vwCl [(y, .inr (4, [.int 1, .int (nI pn), .ref yp, .int (nI bn), .ref yb, .ref yr, .ref yl]))] H1 := by rw [← ht8]; exact hB8
    obtain ⟨hP, hD⟩ := va_join (wr := [(yp, .inl (cI, 12, .inl pf)), (yb, .inl (cI, 10, .inl bs)), (yr, .inl (cI, 10, .inl br)), (yl, .inl (cI, 16, .inl lv))]) (w1 := [(y, .inr (4, [.int 1, .int (nI pn), .ref yp, .int (nI bn), .ref yb, .ref yr, .ref yl]))]) hP hD [0] [1, 2, 3, 4] rfl rfl (by decide) (by decide) hk1 hFc hP1 (bv_Dm (w0 := [(y, .inr (4, [.int 0, .int (nI pn), .ref yp, .int (nI bn), .ref yb, .ref yr, .ref yl]))]) [y] rfl rfl hDc.self)
    have hP : va_P G vwCl [(y, .inr (4, [.int 1, .int (nI pn), .ref yp, .int (nI bn), .ref yb, .ref yr, .ref yl])), (yp, .inl (cI, 12, .inl pf)), (yb, .inl (cI, 10, .inl bs)), (yr, .inl (cI, 10, .inl br)), (yl, .inl (cI, 16, .inl lv))] H1 := hP.sub (ws' := [(y, .inr (4, [.int 1, .int (nI pn), .ref yp, .int (nI bn), .ref yb, .ref yr, .ref yl])), (yp, .inl (cI, 12, .inl pf)), (yb, .inl (cI, 10, .inl bs)), (yr, .inl (cI, 10, .inl br)), (yl, .inl (cI, 16, .inl lv))]) [4, 0, 1, 2, 3] rfl
    have hD : va_D A [(y, .inr (4, [.int 1, .int (nI pn), .ref yp, .int (nI bn), .ref yb, .ref yr, .ref yl])), (yp, .inl (cI, 12, .inl pf)), (yb, .inl (cI, 10, .inl bs)), (yr, .inl (cI, 10, .inl br)), (yl, .inl (cI, 16, .inl lv))] := hD.sub (ws' := [(y, .inr (4, [.int 1, .int (nI pn), .ref yp, .int (nI bn), .ref yb, .ref yr, .ref yl])), (yp, .inl (cI, 12, .inl pf)), (yb, .inl (cI, 10, .inl bs)), (yr, .inl (cI, 10, .inl br)), (yl, .inl (cI, 16, .inl lv))]) [4, 0, 1, 2, 3] (by decide) rfl
    generalize H1 = H at hP hS ⊢
    have hP9 : va_P G vwCl [(y, .inr (4, [.int (nI (if ¬ (0 ≤ i ∧ i < nI bn) then 1 else (if ¬ (1 ≤ r ∧ r ≤ 9) then 2 else 0))), .int (nI pn), .ref yp, .int (nI bn), .ref yb, .ref yr, .ref yl])), (yp, .inl (cI, 12, .inl pf)), (yb, .inl (cI, 10, .inl bs)), (yr, .inl (cI, 10, .inl (bv_if (if ¬ (0 ≤ i ∧ i < nI bn) then 1 else (if ¬ (1 ≤ r ∧ r ≤ 9) then 2 else 0)) (upd br i.toNatClampNeg r) br))), (yl, .inl (cI, 16, .inl lv))] H := by rw [if_pos hbad]; exact hP
    exact W.iret (pc := 18) (v := 0) hx hb hr (fun T8 hT8 hW8 => ⟨⟨0, (), rfl, (by rw [if_pos hbad]; rfl), bv_hP hT8 hP9⟩, hS.F hT8⟩) hS.2.2 dX4_setRank_18
set_option maxHeartbeats 4000000 in
set_option maxRecDepth 100000 in
theorem m_X4_drop (l : Launch) (G : va_G) (cI : ClassId) (sz : Nat) (y yp yb yr yl pn bn : Nat) (th : Int32) (pf bs br lv : Nat → Int32) (hp : pn ≤ 12) (hn : bn ≤ 10) : Met l yX4_drop wsX4_drop ({ frames := 1, cells := 0, slots := 0, locals := 21 }) (bv_P [.ref y] G cI (fun H => H.size = sz ∧ va_P G vwCl [(y, .inr (4, [.int th, .int (nI pn), .ref yp, .int (nI bn), .ref yb, .ref yr, .ref yl])), (yp, .inl (cI, 12, .inl pf)), (yb, .inl (cI, 10, .inl bs)), (yr, .inl (cI, 10, .inl br)), (yl, .inl (cI, 16, .inl lv))] H ∧ va_D (fun _ => True) [(y, .inr (4, [.int th, .int (nI pn), .ref yp, .int (nI bn), .ref yb, .ref yr, .ref yl])), (yp, .inl (cI, 12, .inl pf)), (yb, .inl (cI, 10, .inl bs)), (yr, .inl (cI, 10, .inl br)), (yl, .inl (cI, 16, .inl lv))])) (va_Qi (fun (r9 : Int32) (_ : Unit) => r9 = (bv_if (if ¬ (1 ≤ bn) then 1 else 0) (nI (bn - 1)) 0)) (fun (_ : Unit) (T9 : State) => va_P G vwCl [(y, .inr (4, [.int (nI (if ¬ (1 ≤ bn) then 1 else 0)), .int (nI pn), .ref yp, .int (nI (bv_if (if ¬ (1 ≤ bn) then 1 else 0) (bn - 1) bn)), .ref yb, .ref yr, .ref yl])), (yp, .inl (cI, 12, .inl pf)), (yb, .inl (cI, 10, .inl bs)), (yr, .inl (cI, 10, .inl br)), (yl, .inl (cI, 16, .inl lv))] T9.heap) (va_A [(y, .inr (4, [.int th, .int (nI pn), .ref yp, .int (nI bn), .ref yb, .ref yr, .ref yl])), (yp, .inl (cI, 12, .inl pf)), (yb, .inl (cI, 10, .inl bs)), (yr, .inl (cI, 10, .inl br)), (yl, .inl (cI, 16, .inl lv))] sz)) 0 0 (va_A [(y, .inr (4, [.int th, .int (nI pn), .ref yp, .int (nI bn), .ref yb, .ref yr, .ref yl])), (yp, .inl (cI, 12, .inl pf)), (yb, .inl (cI, 10, .inl bs)), (yr, .inl (cI, 10, .inl br)), (yl, .inl (cI, 16, .inl lv))] sz) := by
  refine Met.ofW (cc := cX4_drop) (maxL := 1) (ret := (some .int)) (by decide) rfl ?_
  intro p e s m args below meth c s₁ B hml hv
  obtain ⟨rfl, ⟨hsz, hP, hD0⟩, hE⟩ := hv
  have hx := B.exec
  have hb := B.bytes
  have hr := B.returns
  have hts := atoms_spec (ws := wsX4_drop) B.pre
  have hown : s.vm.findClass RX4 = some m.cls := findClass_of_methodNamed B.named
  have hlocks := B.notSynchronized
  have hK := hE.1
  have hw0 := hts (.fieldLink RX4 22 "BeliefReviserModel" "thrown" "I") (List.mem_of_getElem? (i := 1) rfl)
  have hw1 : ∀ w ∈ u_ws RX4 TX4 7, w ∈ wsX4_drop := by decide +kernel
  have hw2 := hts (.fieldLink RX4 26 "BeliefReviserModel" "size" "I") (List.mem_of_getElem? (i := 2) rfl)
  subst hsz
  have hD := hD0.self (sz := s.heap.size)
  generalize hAe : va_A [(y, .inr (4, [.int th, .int (nI pn), .ref yp, .int (nI bn), .ref yb, .ref yr, .ref yl])), (yp, .inl (cI, 12, .inl pf)), (yb, .inl (cI, 10, .inl bs)), (yr, .inl (cI, 10, .inl br)), (yl, .inl (cI, 16, .inl lv))] s.heap.size = A at hD ⊢
  have hA : ∀ q : Nat, s.heap.size ≤ q → A q := fun q h => by rw [← hAe]; exact Or.inr h
  have hS : va_S A s.heap s.heap [] := va_S.rf
  have hP : va_P G vwCl [(y, .inr (4, [.int th, .int (nI pn), .ref yp, .int (nI bn), .ref yb, .ref yr, .ref yl])), (yp, .inl (cI, 12, .inl pf)), (yb, .inl (cI, 10, .inl bs)), (yr, .inl (cI, 10, .inl br)), (yl, .inl (cI, 16, .inl lv))] s.heap := hP
  have hl := lv_entry ([.ref y]) (n := 1) (Nat.le_of_ble_eq_true rfl)
  rw [lg_entry_eq]
  generalize (lg_sl ([.ref y]) ++ List.replicate (1 - (lg_sl ([.ref y])).length) Slot.unset).toArray = ls at hl ⊢
  have hl : lv_has ls 1 [(0, .ref y)] := hl
  refine lv_aload_n (pc := 0) hx hb dX4_drop_0 rfl (lv_at hl 0 rfl) ?_
  refine lv_iconst (pc := 1) (v := 0) hx hb dX4_drop_1 (by decide) ?_
  refine va_put (pc := 2) (D := G) (ci := 4) (v := .int 0) (ty := .int) (C := RX4) (T := TX4) (N := 7) hx hb hts hw1 tyX4 tyX4_ok nmX4 hown hK hP hD hS 0 rfl rfl 0 (by decide) hw0 (fun _ h9 => h9) rfl (by decide +kernel) rfl rfl (Nat.le_of_ble_eq_true rfl) dX4_drop_2 (fun H locs hP hD hS => ?_)
  have hP : va_P G vwCl [(y, .inr (4, [.int 0, .int (nI pn), .ref yp, .int (nI bn), .ref yb, .ref yr, .ref yl])), (yp, .inl (cI, 12, .inl pf)), (yb, .inl (cI, 10, .inl bs)), (yr, .inl (cI, 10, .inl br)), (yl, .inl (cI, 16, .inl lv))] H := hP
  have hD : va_D A [(y, .inr (4, [.int 0, .int (nI pn), .ref yp, .int (nI bn), .ref yb, .ref yr, .ref yl])), (yp, .inl (cI, 12, .inl pf)), (yb, .inl (cI, 10, .inl bs)), (yr, .inl (cI, 10, .inl br)), (yl, .inl (cI, 16, .inl lv))] := hD
  refine lv_aload_n (pc := 5) hx hb dX4_drop_5 rfl (lv_at hl 0 rfl) ?_
  refine va_get (pc := 6) (D := G) (ci := 4) (v := .int (nI bn)) (C := RX4) (T := TX4) (N := 7) hx hb hts hw1 hown hK hP 0 rfl rfl 3 (by decide) hw2 (fun _ h9 => h9) rfl dX4_drop_6 ?_
  refine lv_if_ne (pc := 9) (tgt := 18) hx hb dX4_drop_9 (by decide) (fun c9_1 => ?_) (fun c9_1 => ?_)
  · have hck0 : 1 ≤ bn := by
      by_cases h : bn = 0
      · exact absurd (by rw [h]; rfl) c9_1
      · omega
    refine lv_aload_n (pc := 18) hx hb dX4_drop_18 rfl (lv_at hl 0 rfl) ?_
    refine lv_dup (pc := 19) hx hb dX4_drop_19 rfl ?_
    refine va_get (pc := 20) (D := G) (ci := 4) (v := .int (nI bn)) (C := RX4) (T := TX4) (N := 7) hx hb hts hw1 hown hK hP 0 rfl rfl 3 (by decide) hw2 (fun _ h9 => h9) rfl dX4_drop_20 ?_
    refine lv_iconst (pc := 23) (v := 1) hx hb dX4_drop_23 (by decide) ?_
    refine lv_isub (pc := 24) hx hb dX4_drop_24 ?_
    rw [show ((nI bn) - 1) = (nI (bn - 1)) from by rw [show (1 : Int32) = nI 1 from rfl, bv_sub (by omega)]]
    refine va_put (pc := 25) (D := G) (ci := 4) (v := .int (nI (bn - 1))) (ty := .int) (C := RX4) (T := TX4) (N := 7) hx hb hts hw1 tyX4 tyX4_ok nmX4 hown hK hP hD hS 0 rfl rfl 3 (by decide) hw2 (fun _ h9 => h9) rfl (by decide +kernel) rfl rfl (Nat.le_of_ble_eq_true rfl) dX4_drop_25 (fun H locs hP hD hS => ?_)
    have hP : va_P G vwCl [(y, .inr (4, [.int 0, .int (nI pn), .ref yp, .int (nI (bn - 1)), .ref yb, .ref yr, .ref yl])), (yp, .inl (cI, 12, .inl pf)), (yb, .inl (cI, 10, .inl bs)), (yr, .inl (cI, 10, .inl br)), (yl, .inl (cI, 16, .inl lv))] H := hP
    have hD : va_D A [(y, .inr (4, [.int 0, .int (nI pn), .ref yp, .int (nI (bn - 1)), .ref yb, .ref yr, .ref yl])), (yp, .inl (cI, 12, .inl pf)), (yb, .inl (cI, 10, .inl bs)), (yr, .inl (cI, 10, .inl br)), (yl, .inl (cI, 16, .inl lv))] := hD
    refine lv_aload_n (pc := 28) hx hb dX4_drop_28 rfl (lv_at hl 0 rfl) ?_
    refine va_get (pc := 29) (D := G) (ci := 4) (v := .int (nI (bn - 1))) (C := RX4) (T := TX4) (N := 7) hx hb hts hw1 hown hK hP 0 rfl rfl 3 (by decide) hw2 (fun _ h9 => h9) rfl dX4_drop_29 ?_
    have hP9 : va_P G vwCl [(y, .inr (4, [.int (nI (if ¬ (1 ≤ bn) then 1 else 0)), .int (nI pn), .ref yp, .int (nI (bv_if (if ¬ (1 ≤ bn) then 1 else 0) (bn - 1) bn)), .ref yb, .ref yr, .ref yl])), (yp, .inl (cI, 12, .inl pf)), (yb, .inl (cI, 10, .inl bs)), (yr, .inl (cI, 10, .inl br)), (yl, .inl (cI, 16, .inl lv))] H := by rw [if_neg (not_not_intro hck0)]; exact hP
    exact W.iret (pc := 32) (v := (nI (bn - 1))) hx hb hr (fun T8 hT8 hW8 => ⟨⟨(nI (bn - 1)), (), rfl, (by rw [if_neg (not_not_intro hck0)]; rfl), bv_hP hT8 hP9⟩, hS.F hT8⟩) hS.2.2 dX4_drop_32
  · have hbad : ¬ 1 ≤ bn := by
      have h : bn = 0 := (bv_pn0 (by omega)).mp c9_1
      omega
    refine lv_aload_n (pc := 12) hx hb dX4_drop_12 rfl (lv_at hl 0 rfl) ?_
    refine lv_iconst (pc := 13) (v := 1) hx hb dX4_drop_13 (by decide) ?_
    have hPc := hP.sub (ws' := [(y, .inr (4, [.int 0, .int (nI pn), .ref yp, .int (nI bn), .ref yb, .ref yr, .ref yl]))]) [0] rfl
    have hDc := hD.sub (ws' := [(y, .inr (4, [.int 0, .int (nI pn), .ref yp, .int (nI bn), .ref yb, .ref yr, .ref yl]))]) [0] (by decide) rfl
    have hFc := va_free (wc := [(y, .inr (4, [.int 0, .int (nI pn), .ref yp, .int (nI bn), .ref yb, .ref yr, .ref yl]))]) hD hS hA [0] rfl
    refine bv_cMi (pc := 14) (E' := 0) (va_runV (As := [.int 1]) (rest := []) ⟨hx, hb, hml, hown, hts⟩ (m_X4_no l G cI H.size y yp yb yr yl 0 (nI pn) (nI bn) 1 ) (cwV 1 hts gX4_drop_X4_no rfl rfl rfl (by decide +kernel) ⟨Nat.le_of_ble_eq_true rfl, Nat.le_of_ble_eq_true rfl⟩) (bv_pV hE ⟨rfl, hPc, hDc.weaken (fun _ _ _ _ => trivial)⟩ (va_recv hK hP (ci := 4) (q0 := 0) rfl rfl)) rfl rfl hl.1 rfl (lv_room (Nat.le_of_ble_eq_true rfl)) dX4_drop_14 ⟨Nat.le_of_ble_eq_true rfl, Nat.le_of_ble_eq_true rfl⟩) hS (fun q _ h => hFc q h) hFc rfl (fun t8 H1 locs ht8 hvm8 hB8 hz1 hk1 hS => ?_)
    have hP1 : va_P G vwCl [(y, .inr (4, [.int 1, .int (nI pn), .ref yp, .int (nI bn), .ref yb, .ref yr, .ref yl]))] H1 := by rw [← ht8]; exact hB8
    obtain ⟨hP, hD⟩ := va_join (wr := [(yp, .inl (cI, 12, .inl pf)), (yb, .inl (cI, 10, .inl bs)), (yr, .inl (cI, 10, .inl br)), (yl, .inl (cI, 16, .inl lv))]) (w1 := [(y, .inr (4, [.int 1, .int (nI pn), .ref yp, .int (nI bn), .ref yb, .ref yr, .ref yl]))]) hP hD [0] [1, 2, 3, 4] rfl rfl (by decide) (by decide) hk1 hFc hP1 (bv_Dm (w0 := [(y, .inr (4, [.int 0, .int (nI pn), .ref yp, .int (nI bn), .ref yb, .ref yr, .ref yl]))]) [y] rfl rfl hDc.self)
    have hP : va_P G vwCl [(y, .inr (4, [.int 1, .int (nI pn), .ref yp, .int (nI bn), .ref yb, .ref yr, .ref yl])), (yp, .inl (cI, 12, .inl pf)), (yb, .inl (cI, 10, .inl bs)), (yr, .inl (cI, 10, .inl br)), (yl, .inl (cI, 16, .inl lv))] H1 := hP.sub (ws' := [(y, .inr (4, [.int 1, .int (nI pn), .ref yp, .int (nI bn), .ref yb, .ref yr, .ref yl])), (yp, .inl (cI, 12, .inl pf)), (yb, .inl (cI, 10, .inl bs)), (yr, .inl (cI, 10, .inl br)), (yl, .inl (cI, 16, .inl lv))]) [4, 0, 1, 2, 3] rfl
    have hD : va_D A [(y, .inr (4, [.int 1, .int (nI pn), .ref yp, .int (nI bn), .ref yb, .ref yr, .ref yl])), (yp, .inl (cI, 12, .inl pf)), (yb, .inl (cI, 10, .inl bs)), (yr, .inl (cI, 10, .inl br)), (yl, .inl (cI, 16, .inl lv))] := hD.sub (ws' := [(y, .inr (4, [.int 1, .int (nI pn), .ref yp, .int (nI bn), .ref yb, .ref yr, .ref yl])), (yp, .inl (cI, 12, .inl pf)), (yb, .inl (cI, 10, .inl bs)), (yr, .inl (cI, 10, .inl br)), (yl, .inl (cI, 16, .inl lv))]) [4, 0, 1, 2, 3] (by decide) rfl
    generalize H1 = H at hP hS ⊢
    have hP9 : va_P G vwCl [(y, .inr (4, [.int (nI (if ¬ (1 ≤ bn) then 1 else 0)), .int (nI pn), .ref yp, .int (nI (bv_if (if ¬ (1 ≤ bn) then 1 else 0) (bn - 1) bn)), .ref yb, .ref yr, .ref yl])), (yp, .inl (cI, 12, .inl pf)), (yb, .inl (cI, 10, .inl bs)), (yr, .inl (cI, 10, .inl br)), (yl, .inl (cI, 16, .inl lv))] H := by rw [if_pos hbad]; exact hP
    exact W.iret (pc := 17) (v := 0) hx hb hr (fun T8 hT8 hW8 => ⟨⟨0, (), rfl, (by rw [if_pos hbad]; rfl), bv_hP hT8 hP9⟩, hS.F hT8⟩) hS.2.2 dX4_drop_17
set_option maxHeartbeats 4000000 in
set_option maxRecDepth 100000 in
theorem m_X4_size (l : Launch) (G : va_G) (cI : ClassId) (sz : Nat) (y yp yb yr yl pn bn : Nat) (th : Int32) (pf bs br lv : Nat → Int32) (hp : pn ≤ 12) (hn : bn ≤ 10) : Met l yX4_size wsX4_size ({ frames := 0, cells := 0, slots := 0, locals := 0 }) (bv_P [.ref y] G cI (fun H => H.size = sz ∧ va_P G vwCl [(y, .inr (4, [.int th, .int (nI pn), .ref yp, .int (nI bn), .ref yb, .ref yr, .ref yl])), (yp, .inl (cI, 12, .inl pf)), (yb, .inl (cI, 10, .inl bs)), (yr, .inl (cI, 10, .inl br)), (yl, .inl (cI, 16, .inl lv))] H ∧ va_D (fun _ => True) [(y, .inr (4, [.int th, .int (nI pn), .ref yp, .int (nI bn), .ref yb, .ref yr, .ref yl])), (yp, .inl (cI, 12, .inl pf)), (yb, .inl (cI, 10, .inl bs)), (yr, .inl (cI, 10, .inl br)), (yl, .inl (cI, 16, .inl lv))])) (va_Qi (fun (r9 : Int32) (_ : Unit) => r9 = (nI bn)) (fun (_ : Unit) (T9 : State) => va_P G vwCl [(y, .inr (4, [.int 0, .int (nI pn), .ref yp, .int (nI bn), .ref yb, .ref yr, .ref yl])), (yp, .inl (cI, 12, .inl pf)), (yb, .inl (cI, 10, .inl bs)), (yr, .inl (cI, 10, .inl br)), (yl, .inl (cI, 16, .inl lv))] T9.heap) (va_A [(y, .inr (4, [.int th, .int (nI pn), .ref yp, .int (nI bn), .ref yb, .ref yr, .ref yl])), (yp, .inl (cI, 12, .inl pf)), (yb, .inl (cI, 10, .inl bs)), (yr, .inl (cI, 10, .inl br)), (yl, .inl (cI, 16, .inl lv))] sz)) 0 0 (va_A [(y, .inr (4, [.int th, .int (nI pn), .ref yp, .int (nI bn), .ref yb, .ref yr, .ref yl])), (yp, .inl (cI, 12, .inl pf)), (yb, .inl (cI, 10, .inl bs)), (yr, .inl (cI, 10, .inl br)), (yl, .inl (cI, 16, .inl lv))] sz) := by
  refine Met.ofW (cc := cX4_size) (maxL := 1) (ret := (some .int)) (by decide) rfl ?_
  intro p e s m args below meth c s₁ B hml hv
  obtain ⟨rfl, ⟨hsz, hP, hD0⟩, hE⟩ := hv
  have hx := B.exec
  have hb := B.bytes
  have hr := B.returns
  have hts := atoms_spec (ws := wsX4_size) B.pre
  have hown : s.vm.findClass RX4 = some m.cls := findClass_of_methodNamed B.named
  have hlocks := B.notSynchronized
  have hK := hE.1
  have hw0 := hts (.fieldLink RX4 22 "BeliefReviserModel" "thrown" "I") (List.mem_of_getElem? (i := 1) rfl)
  have hw1 : ∀ w ∈ u_ws RX4 TX4 7, w ∈ wsX4_size := by decide +kernel
  have hw2 := hts (.fieldLink RX4 26 "BeliefReviserModel" "size" "I") (List.mem_of_getElem? (i := 2) rfl)
  subst hsz
  have hD := hD0.self (sz := s.heap.size)
  generalize hAe : va_A [(y, .inr (4, [.int th, .int (nI pn), .ref yp, .int (nI bn), .ref yb, .ref yr, .ref yl])), (yp, .inl (cI, 12, .inl pf)), (yb, .inl (cI, 10, .inl bs)), (yr, .inl (cI, 10, .inl br)), (yl, .inl (cI, 16, .inl lv))] s.heap.size = A at hD ⊢
  have hA : ∀ q : Nat, s.heap.size ≤ q → A q := fun q h => by rw [← hAe]; exact Or.inr h
  have hS : va_S A s.heap s.heap [] := va_S.rf
  have hP : va_P G vwCl [(y, .inr (4, [.int th, .int (nI pn), .ref yp, .int (nI bn), .ref yb, .ref yr, .ref yl])), (yp, .inl (cI, 12, .inl pf)), (yb, .inl (cI, 10, .inl bs)), (yr, .inl (cI, 10, .inl br)), (yl, .inl (cI, 16, .inl lv))] s.heap := hP
  have hl := lv_entry ([.ref y]) (n := 1) (Nat.le_of_ble_eq_true rfl)
  rw [lg_entry_eq]
  generalize (lg_sl ([.ref y]) ++ List.replicate (1 - (lg_sl ([.ref y])).length) Slot.unset).toArray = ls at hl ⊢
  have hl : lv_has ls 1 [(0, .ref y)] := hl
  refine lv_aload_n (pc := 0) hx hb dX4_size_0 rfl (lv_at hl 0 rfl) ?_
  refine lv_iconst (pc := 1) (v := 0) hx hb dX4_size_1 (by decide) ?_
  refine va_put (pc := 2) (D := G) (ci := 4) (v := .int 0) (ty := .int) (C := RX4) (T := TX4) (N := 7) hx hb hts hw1 tyX4 tyX4_ok nmX4 hown hK hP hD hS 0 rfl rfl 0 (by decide) hw0 (fun _ h9 => h9) rfl (by decide +kernel) rfl rfl (Nat.le_of_ble_eq_true rfl) dX4_size_2 (fun H locs hP hD hS => ?_)
  have hP : va_P G vwCl [(y, .inr (4, [.int 0, .int (nI pn), .ref yp, .int (nI bn), .ref yb, .ref yr, .ref yl])), (yp, .inl (cI, 12, .inl pf)), (yb, .inl (cI, 10, .inl bs)), (yr, .inl (cI, 10, .inl br)), (yl, .inl (cI, 16, .inl lv))] H := hP
  have hD : va_D A [(y, .inr (4, [.int 0, .int (nI pn), .ref yp, .int (nI bn), .ref yb, .ref yr, .ref yl])), (yp, .inl (cI, 12, .inl pf)), (yb, .inl (cI, 10, .inl bs)), (yr, .inl (cI, 10, .inl br)), (yl, .inl (cI, 16, .inl lv))] := hD
  refine lv_aload_n (pc := 5) hx hb dX4_size_5 rfl (lv_at hl 0 rfl) ?_
  refine va_get (pc := 6) (D := G) (ci := 4) (v := .int (nI bn)) (C := RX4) (T := TX4) (N := 7) hx hb hts hw1 hown hK hP 0 rfl rfl 3 (by decide) hw2 (fun _ h9 => h9) rfl dX4_size_6 ?_
  have hP9 : va_P G vwCl [(y, .inr (4, [.int 0, .int (nI pn), .ref yp, .int (nI bn), .ref yb, .ref yr, .ref yl])), (yp, .inl (cI, 12, .inl pf)), (yb, .inl (cI, 10, .inl bs)), (yr, .inl (cI, 10, .inl br)), (yl, .inl (cI, 16, .inl lv))] H := hP
  exact W.iret (pc := 9) (v := (nI bn)) hx hb hr (fun T8 hT8 hW8 => ⟨⟨(nI bn), (), rfl, rfl, bv_hP hT8 hP9⟩, hS.F hT8⟩) hS.2.2 dX4_size_9
set_option maxHeartbeats 4000000 in
set_option maxRecDepth 100000 in
theorem m_X4_sentence (l : Launch) (G : va_G) (cI : ClassId) (sz : Nat) (y yp yb yr yl pn bn : Nat) (th : Int32) (pf bs br lv : Nat → Int32) (i : Int32) (b : Bool) (hp : pn ≤ 12) (hn : bn ≤ 10) : Met l yX4_sentence wsX4_sentence ({ frames := 2, cells := 0, slots := 0, locals := 43 }) (bv_P [.ref y, .int i, .int (bv_b b)] G cI (fun H => H.size = sz ∧ va_P G vwCl [(y, .inr (4, [.int th, .int (nI pn), .ref yp, .int (nI bn), .ref yb, .ref yr, .ref yl])), (yp, .inl (cI, 12, .inl pf)), (yb, .inl (cI, 10, .inl bs)), (yr, .inl (cI, 10, .inl br)), (yl, .inl (cI, 16, .inl lv))] H ∧ va_D (fun _ => True) [(y, .inr (4, [.int th, .int (nI pn), .ref yp, .int (nI bn), .ref yb, .ref yr, .ref yl])), (yp, .inl (cI, 12, .inl pf)), (yb, .inl (cI, 10, .inl bs)), (yr, .inl (cI, 10, .inl br)), (yl, .inl (cI, 16, .inl lv))])) (va_Qi (fun (r9 : Int32) (_ : Unit) => r9 = (bv_if (if ¬ (0 ≤ i ∧ i < nI bn) then 1 else 0) (if b then br i.toNatClampNeg else bs i.toNatClampNeg) 0)) (fun (_ : Unit) (T9 : State) => va_P G vwCl [(y, .inr (4, [.int (nI (if ¬ (0 ≤ i ∧ i < nI bn) then 1 else 0)), .int (nI pn), .ref yp, .int (nI bn), .ref yb, .ref yr, .ref yl])), (yp, .inl (cI, 12, .inl pf)), (yb, .inl (cI, 10, .inl bs)), (yr, .inl (cI, 10, .inl br)), (yl, .inl (cI, 16, .inl lv))] T9.heap) (va_A [(y, .inr (4, [.int th, .int (nI pn), .ref yp, .int (nI bn), .ref yb, .ref yr, .ref yl])), (yp, .inl (cI, 12, .inl pf)), (yb, .inl (cI, 10, .inl bs)), (yr, .inl (cI, 10, .inl br)), (yl, .inl (cI, 16, .inl lv))] sz)) 0 0 (va_A [(y, .inr (4, [.int th, .int (nI pn), .ref yp, .int (nI bn), .ref yb, .ref yr, .ref yl])), (yp, .inl (cI, 12, .inl pf)), (yb, .inl (cI, 10, .inl bs)), (yr, .inl (cI, 10, .inl br)), (yl, .inl (cI, 16, .inl lv))] sz) := by
  refine Met.ofW (cc := cX4_sentence) (maxL := 3) (ret := (some .int)) (by decide) rfl ?_
  intro p e s m args below meth c s₁ B hml hv
  obtain ⟨rfl, ⟨hsz, hP, hD0⟩, hE⟩ := hv
  have hx := B.exec
  have hb := B.bytes
  have hr := B.returns
  have hts := atoms_spec (ws := wsX4_sentence) B.pre
  have hown : s.vm.findClass RX4 = some m.cls := findClass_of_methodNamed B.named
  have hlocks := B.notSynchronized
  have hK := hE.1
  have hw0 := hts (.fieldLink RX4 22 "BeliefReviserModel" "thrown" "I") (List.mem_of_getElem? (i := 1) rfl)
  have hw1 : ∀ w ∈ u_ws RX4 TX4 7, w ∈ wsX4_sentence := by decide +kernel
  have hw2 := hts (.fieldLink RX4 13 "BeliefReviserModel" "base" "[I") (List.mem_of_getElem? (i := 3) rfl)
  have hw3 := hts (.fieldLink RX4 16 "BeliefReviserModel" "ranks" "[I") (List.mem_of_getElem? (i := 2) rfl)
  subst hsz
  have hD := hD0.self (sz := s.heap.size)
  generalize hAe : va_A [(y, .inr (4, [.int th, .int (nI pn), .ref yp, .int (nI bn), .ref yb, .ref yr, .ref yl])), (yp, .inl (cI, 12, .inl pf)), (yb, .inl (cI, 10, .inl bs)), (yr, .inl (cI, 10, .inl br)), (yl, .inl (cI, 16, .inl lv))] s.heap.size = A at hD ⊢
  have hA : ∀ q : Nat, s.heap.size ≤ q → A q := fun q h => by rw [← hAe]; exact Or.inr h
  have hS : va_S A s.heap s.heap [] := va_S.rf
  have hP : va_P G vwCl [(y, .inr (4, [.int th, .int (nI pn), .ref yp, .int (nI bn), .ref yb, .ref yr, .ref yl])), (yp, .inl (cI, 12, .inl pf)), (yb, .inl (cI, 10, .inl bs)), (yr, .inl (cI, 10, .inl br)), (yl, .inl (cI, 16, .inl lv))] s.heap := hP
  have hl := lv_entry ([.ref y, .int i, .int (bv_b b)]) (n := 3) (Nat.le_of_ble_eq_true rfl)
  rw [lg_entry_eq]
  generalize (lg_sl ([.ref y, .int i, .int (bv_b b)]) ++ List.replicate (3 - (lg_sl ([.ref y, .int i, .int (bv_b b)])).length) Slot.unset).toArray = ls at hl ⊢
  have hl : lv_has ls 3 [(0, .ref y), (1, .int i), (2, .int (bv_b b))] := hl
  refine lv_aload_n (pc := 0) hx hb dX4_sentence_0 rfl (lv_at hl 0 rfl) ?_
  refine lv_iconst (pc := 1) (v := 0) hx hb dX4_sentence_1 (by decide) ?_
  refine va_put (pc := 2) (D := G) (ci := 4) (v := .int 0) (ty := .int) (C := RX4) (T := TX4) (N := 7) hx hb hts hw1 tyX4 tyX4_ok nmX4 hown hK hP hD hS 0 rfl rfl 0 (by decide) hw0 (fun _ h9 => h9) rfl (by decide +kernel) rfl rfl (Nat.le_of_ble_eq_true rfl) dX4_sentence_2 (fun H locs hP hD hS => ?_)
  have hP : va_P G vwCl [(y, .inr (4, [.int 0, .int (nI pn), .ref yp, .int (nI bn), .ref yb, .ref yr, .ref yl])), (yp, .inl (cI, 12, .inl pf)), (yb, .inl (cI, 10, .inl bs)), (yr, .inl (cI, 10, .inl br)), (yl, .inl (cI, 16, .inl lv))] H := hP
  have hD : va_D A [(y, .inr (4, [.int 0, .int (nI pn), .ref yp, .int (nI bn), .ref yb, .ref yr, .ref yl])), (yp, .inl (cI, 12, .inl pf)), (yb, .inl (cI, 10, .inl bs)), (yr, .inl (cI, 10, .inl br)), (yl, .inl (cI, 16, .inl lv))] := hD
  refine lv_aload_n (pc := 5) hx hb dX4_sentence_5 rfl (lv_at hl 0 rfl) ?_
  refine lv_iload_n (pc := 6) hx hb dX4_sentence_6 rfl (lv_at hl 1 rfl) ?_
  have hPc := hP.sub (ws' := [(y, .inr (4, [.int 0, .int (nI pn), .ref yp, .int (nI bn), .ref yb, .ref yr, .ref yl]))]) [0] rfl
  refine bv_cSi (pc := 7) (E' := (bv_b (decide (0 ≤ i ∧ i < nI bn)))) (va_runV (As := [.int i]) (rest := []) ⟨hx, hb, hml, hown, hts⟩ (m_X4_isSentence l G cI y yp yb yr yl bn 0 (nI pn) i (by first | assumption | omega)) (cwV 1 hts gX4_sentence_X4_isSentence rfl rfl rfl (by decide +kernel) ⟨Nat.le_of_ble_eq_true rfl, Nat.le_of_ble_eq_true rfl⟩) (bv_pV hE hPc (va_recv hK hP (ci := 4) (q0 := 0) rfl rfl)) rfl rfl hl.1 rfl (lv_room (Nat.le_of_ble_eq_true rfl)) dX4_sentence_7 ⟨Nat.le_of_ble_eq_true rfl, Nat.le_of_ble_eq_true rfl⟩) rfl ?_
  refine lv_if_ne (pc := 10) (tgt := 21) hx hb dX4_sentence_10 (by decide) (fun c10_3 => ?_) (fun c10_3 => ?_)
  · have hck0 := of_decide_eq_true (bv_b1.mp c10_3)
    obtain ⟨j, hj, rfl⟩ := bv_ix hck0.1 hck0.2 (by omega)
    refine lv_iload_n (pc := 21) hx hb dX4_sentence_21 rfl (lv_at hl 2 rfl) ?_
    refine lv_if_eq (pc := 22) (tgt := 34) hx hb dX4_sentence_22 (by decide) (fun c22_4 => ?_) (fun c22_4 => ?_)
    · have h1 := bv_b0.mp c22_4
      refine lv_aload_n (pc := 34) hx hb dX4_sentence_34 rfl (lv_at hl 0 rfl) ?_
      refine va_get (pc := 35) (D := G) (ci := 4) (v := .ref yb) (C := RX4) (T := TX4) (N := 7) hx hb hts hw1 hown hK hP 0 rfl rfl 4 (by decide) hw2 (fun _ h9 => h9) rfl dX4_sentence_35 ?_
      refine lv_iload_n (pc := 38) hx hb dX4_sentence_38 rfl (lv_at hl 1 rfl) ?_
      refine bv_ial (pc := 39) hx hb hK hP 2 0 rfl rfl (by omega) (by omega) dX4_sentence_39 ?_
      have hP9 : va_P G vwCl [(y, .inr (4, [.int (nI (if ¬ (0 ≤ (nI j) ∧ (nI j) < nI bn) then 1 else 0)), .int (nI pn), .ref yp, .int (nI bn), .ref yb, .ref yr, .ref yl])), (yp, .inl (cI, 12, .inl pf)), (yb, .inl (cI, 10, .inl bs)), (yr, .inl (cI, 10, .inl br)), (yl, .inl (cI, 16, .inl lv))] H := by rw [if_neg (not_not_intro hck0)]; exact hP
      exact W.iret (pc := 40) (v := (bs j)) hx hb hr (fun T8 hT8 hW8 => ⟨⟨(bs j), (), rfl, (by rw [if_neg (not_not_intro hck0), h1, nI_clamp (by omega)]; rfl), bv_hP hT8 hP9⟩, hS.F hT8⟩) hS.2.2 dX4_sentence_40
    · have h1 := bv_b1.mp c22_4
      refine lv_aload_n (pc := 25) hx hb dX4_sentence_25 rfl (lv_at hl 0 rfl) ?_
      refine va_get (pc := 26) (D := G) (ci := 4) (v := .ref yr) (C := RX4) (T := TX4) (N := 7) hx hb hts hw1 hown hK hP 0 rfl rfl 5 (by decide) hw3 (fun _ h9 => h9) rfl dX4_sentence_26 ?_
      refine lv_iload_n (pc := 29) hx hb dX4_sentence_29 rfl (lv_at hl 1 rfl) ?_
      refine bv_ial (pc := 30) hx hb hK hP 3 0 rfl rfl (by omega) (by omega) dX4_sentence_30 ?_
      refine lv_goto (pc := 31) (tgt := 40) hx hb dX4_sentence_31 (by decide) ?_
      have hP9 : va_P G vwCl [(y, .inr (4, [.int (nI (if ¬ (0 ≤ (nI j) ∧ (nI j) < nI bn) then 1 else 0)), .int (nI pn), .ref yp, .int (nI bn), .ref yb, .ref yr, .ref yl])), (yp, .inl (cI, 12, .inl pf)), (yb, .inl (cI, 10, .inl bs)), (yr, .inl (cI, 10, .inl br)), (yl, .inl (cI, 16, .inl lv))] H := by rw [if_neg (not_not_intro hck0)]; exact hP
      exact W.iret (pc := 40) (v := (br j)) hx hb hr (fun T8 hT8 hW8 => ⟨⟨(br j), (), rfl, (by rw [if_neg (not_not_intro hck0), h1, nI_clamp (by omega)]; rfl), bv_hP hT8 hP9⟩, hS.F hT8⟩) hS.2.2 dX4_sentence_40
  · have hbad := of_decide_eq_false (bv_b0.mp c10_3)
    refine lv_aload_n (pc := 13) hx hb dX4_sentence_13 rfl (lv_at hl 0 rfl) ?_
    refine lv_iconst (pc := 14) (v := 1) hx hb dX4_sentence_14 (by decide) ?_
    have hPc := hP.sub (ws' := [(y, .inr (4, [.int 0, .int (nI pn), .ref yp, .int (nI bn), .ref yb, .ref yr, .ref yl]))]) [0] rfl
    have hDc := hD.sub (ws' := [(y, .inr (4, [.int 0, .int (nI pn), .ref yp, .int (nI bn), .ref yb, .ref yr, .ref yl]))]) [0] (by decide) rfl
    have hFc := va_free (wc := [(y, .inr (4, [.int 0, .int (nI pn), .ref yp, .int (nI bn), .ref yb, .ref yr, .ref yl]))]) hD hS hA [0] rfl
    refine bv_cMi (pc := 15) (E' := 0) (va_runV (As := [.int 1]) (rest := []) ⟨hx, hb, hml, hown, hts⟩ (m_X4_no l G cI H.size y yp yb yr yl 0 (nI pn) (nI bn) 1 ) (cwV 1 hts gX4_sentence_X4_no rfl rfl rfl (by decide +kernel) ⟨Nat.le_of_ble_eq_true rfl, Nat.le_of_ble_eq_true rfl⟩) (bv_pV hE ⟨rfl, hPc, hDc.weaken (fun _ _ _ _ => trivial)⟩ (va_recv hK hP (ci := 4) (q0 := 0) rfl rfl)) rfl rfl hl.1 rfl (lv_room (Nat.le_of_ble_eq_true rfl)) dX4_sentence_15 ⟨Nat.le_of_ble_eq_true rfl, Nat.le_of_ble_eq_true rfl⟩) hS (fun q _ h => hFc q h) hFc rfl (fun t8 H1 locs ht8 hvm8 hB8 hz1 hk1 hS => ?_)
    have hP1 : va_P G vwCl [(y, .inr (4, [.int 1, .int (nI pn), .ref yp, .int (nI bn), .ref yb, .ref yr, .ref yl]))] H1 := by rw [← ht8]; exact hB8
    obtain ⟨hP, hD⟩ := va_join (wr := [(yp, .inl (cI, 12, .inl pf)), (yb, .inl (cI, 10, .inl bs)), (yr, .inl (cI, 10, .inl br)), (yl, .inl (cI, 16, .inl lv))]) (w1 := [(y, .inr (4, [.int 1, .int (nI pn), .ref yp, .int (nI bn), .ref yb, .ref yr, .ref yl]))]) hP hD [0] [1, 2, 3, 4] rfl rfl (by decide) (by decide) hk1 hFc hP1 (bv_Dm (w0 := [(y, .inr (4, [.int 0, .int (nI pn), .ref yp, .int (nI bn), .ref yb, .ref yr, .ref yl]))]) [y] rfl rfl hDc.self)
    have hP : va_P G vwCl [(y, .inr (4, [.int 1, .int (nI pn), .ref yp, .int (nI bn), .ref yb, .ref yr, .ref yl])), (yp, .inl (cI, 12, .inl pf)), (yb, .inl (cI, 10, .inl bs)), (yr, .inl (cI, 10, .inl br)), (yl, .inl (cI, 16, .inl lv))] H1 := hP.sub (ws' := [(y, .inr (4, [.int 1, .int (nI pn), .ref yp, .int (nI bn), .ref yb, .ref yr, .ref yl])), (yp, .inl (cI, 12, .inl pf)), (yb, .inl (cI, 10, .inl bs)), (yr, .inl (cI, 10, .inl br)), (yl, .inl (cI, 16, .inl lv))]) [4, 0, 1, 2, 3] rfl
    have hD : va_D A [(y, .inr (4, [.int 1, .int (nI pn), .ref yp, .int (nI bn), .ref yb, .ref yr, .ref yl])), (yp, .inl (cI, 12, .inl pf)), (yb, .inl (cI, 10, .inl bs)), (yr, .inl (cI, 10, .inl br)), (yl, .inl (cI, 16, .inl lv))] := hD.sub (ws' := [(y, .inr (4, [.int 1, .int (nI pn), .ref yp, .int (nI bn), .ref yb, .ref yr, .ref yl])), (yp, .inl (cI, 12, .inl pf)), (yb, .inl (cI, 10, .inl bs)), (yr, .inl (cI, 10, .inl br)), (yl, .inl (cI, 16, .inl lv))]) [4, 0, 1, 2, 3] (by decide) rfl
    generalize H1 = H at hP hS ⊢
    refine lv_goto (pc := 18) (tgt := 40) hx hb dX4_sentence_18 (by decide) ?_
    have hP9 : va_P G vwCl [(y, .inr (4, [.int (nI (if ¬ (0 ≤ i ∧ i < nI bn) then 1 else 0)), .int (nI pn), .ref yp, .int (nI bn), .ref yb, .ref yr, .ref yl])), (yp, .inl (cI, 12, .inl pf)), (yb, .inl (cI, 10, .inl bs)), (yr, .inl (cI, 10, .inl br)), (yl, .inl (cI, 16, .inl lv))] H := by rw [if_pos hbad]; exact hP
    exact W.iret (pc := 40) (v := 0) hx hb hr (fun T8 hT8 hW8 => ⟨⟨0, (), rfl, (by rw [if_pos hbad]; rfl), bv_hP hT8 hP9⟩, hS.F hT8⟩) hS.2.2 dX4_sentence_40
