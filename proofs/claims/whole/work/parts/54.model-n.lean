theorem bv_uu {f : Nat → Int32} {k : Nat} {x z : Int32} : upd (upd f k x) k z = upd f k z := by
  funext j
  show (if j = k then z else if j = k then x else f j) = if j = k then z else f j
  split <;> rfl
theorem bv_load_b {bs br lv : Nat → Int32} {bn : Nat} (hbr : ∀ j, j < bn → br j ≤ 9) : ∀ w, w < 16 → 0 ≤ bv_load bs br bn lv w ∧ bv_load bs br bn lv w < 2147483647 := by
  intro w hw
  unfold bv_load bv_put1
  rw [if_pos hw]
  refine ⟨bv_gr_nn bs br (nI w) bn, ?_⟩
  have := bv_gr_le bn hbr (bs := bs) (w := nI w)
  exact Int32.lt_of_le_of_lt this (by decide)
/-- the sentences of t that have just the rank x -/
def bv_eqs (br : Nat → Int32) (t : Nat) (x : Int32) : Nat → Nat
  | 0 => 0
  | k + 1 => if t.testBit k = true ∧ br k = x then bv_eqs br t x k ||| 2 ^ k else bv_eqs br t x k
theorem bv_eqs_bit {br : Nat → Int32} {t : Nat} {x : Int32} : ∀ n i, (bv_eqs br t x n).testBit i = (decide (i < n) && (t.testBit i && decide (br i = x)))
  | 0, i => by rw [bv_eqs, Nat.zero_testBit, decide_eq_false (Nat.not_lt_zero _), Bool.false_and]
  | n + 1, i => by
    have ih := bv_eqs_bit n i (br := br) (t := t) (x := x)
    rw [bv_eqs]
    by_cases c : t.testBit n = true ∧ br n = x
    · rw [if_pos c, Nat.testBit_or, Nat.testBit_two_pow, ih]
      by_cases e : n = i
      · subst e; simp [c.1, c.2]
      · have : (decide (i < n + 1)) = decide (i < n) := by congr 1; apply propext; constructor <;> intro h <;> omega
        rw [this]; simp [e]
    · rw [if_neg c, ih]
      by_cases e : n = i
      · subst e
        rw [decide_eq_false (Nat.lt_irrefl _), Bool.false_and]
        cases z : t.testBit n
        · simp
        · simp [z] at c; simp [c]
      · have : (decide (i < n + 1)) = decide (i < n) := by congr 1; apply propext; constructor <;> intro h <;> omega
        rw [this]
theorem bv_rf_bit {br : Nat → Int32} {r : Int32} : ∀ n i, (bv_rf br r n).testBit i = (decide (i < n) && decide (r ≤ br i))
  | 0, i => by rw [bv_rf, Nat.zero_testBit, decide_eq_false (Nat.not_lt_zero _), Bool.false_and]
  | n + 1, i => by
    have ih := bv_rf_bit n i (br := br) (r := r)
    rw [bv_rf]
    by_cases c : r ≤ br n
    · rw [if_pos c, Nat.testBit_or, Nat.testBit_two_pow, ih]
      by_cases e : n = i
      · subst e; simp [c]
      · have : (decide (i < n + 1)) = decide (i < n) := by congr 1; apply propext; constructor <;> intro h <;> omega
        rw [this]; simp [e]
    · rw [if_neg c, ih]
      by_cases e : n = i
      · subst e; simp [c]
      · have : (decide (i < n + 1)) = decide (i < n) := by congr 1; apply propext; constructor <;> intro h <;> omega
        rw [this]
theorem bv_min_l (x z : Int32) : bv_min x z ≤ x := by
  unfold bv_min; split
  · exact Int32.le_of_lt (by assumption)
  · exact Int32.le_refl _
theorem bv_min_r (x z : Int32) : bv_min x z ≤ z := by
  unfold bv_min; split
  · exact Int32.le_refl _
  · exact Int32.not_lt.mp (by assumption)
theorem bv_lst_9 (br : Nat → Int32) (t : Nat) : ∀ n, bv_lst br t n ≤ 9
  | 0 => Int32.le_refl _
  | n + 1 => by
    rw [bv_lst]; split
    · exact Int32.le_trans (bv_min_l _ _) (bv_lst_9 br t n)
    · exact bv_lst_9 br t n
theorem bv_lst_le {br : Nat → Int32} {t : Nat} : ∀ n k, k < n → t.testBit k = true → bv_lst br t n ≤ br k
  | 0, k, hk, _ => absurd hk (Nat.not_lt_zero _)
  | n + 1, k, hk, h => by
    rw [bv_lst]
    by_cases e : k = n
    · subst e; rw [if_pos h]; exact bv_min_r _ _
    · have ih := bv_lst_le n k (by omega) h (br := br)
      split
      · exact Int32.le_trans (bv_min_l _ _) ih
      · exact ih
theorem bv_succ_le {x z : Int32} (h : x ≤ 9) : x + 1 ≤ z ↔ x < z := by
  rw [Int32.le_iff_toInt_le, Int32.lt_iff_toInt_lt]
  have h1 := Int32.le_iff_toInt_le.mp h
  rw [show (9 : Int32).toInt = 9 from by decide] at h1
  have h2 := Int32.minValue_le_toInt x
  rw [show Int32.minValue.toInt = -2147483648 from by decide] at h2
  have h3 : (x + 1).toInt = x.toInt + 1 := by
    rw [Int32.toInt_add, show (1 : Int32).toInt = 1 from by decide]
    exact Int.bmod_eq_of_le (by omega) (by omega)
  rw [h3]
  omega
theorem bv_eqs_lr {br : Nat → Int32} {bn t : Nat} (hn : bn ≤ 10) (ht : t < 2 ^ bn) : nI (bv_eqs br t (bv_lst br t bn) bn) = bv_lr br bn t := by
  have e1 := bv_x2 (nI t) (nI (bv_rf br (bv_lst br t bn + 1) bn))
  have e2 : nI t &&& (nI (bv_rf br (bv_lst br t bn + 1) bn) ^^^ (-1)) = (nI t ||| nI (bv_rf br (bv_lst br t bn + 1) bn)) ^^^ nI (bv_rf br (bv_lst br t bn + 1) bn) := by
    generalize nI t = u
    generalize nI (bv_rf br (bv_lst br t bn + 1) bn) = v
    apply Int32.toBitVec_inj.mp
    rw [Int32.toBitVec_xor, Int32.toBitVec_and, Int32.toBitVec_or, Int32.toBitVec_xor, bv_m1b]
    apply BitVec.eq_of_getElem_eq
    intro i hi
    simp only [BitVec.getElem_xor, BitVec.getElem_and, BitVec.getElem_or, BitVec.getElem_allOnes]
    cases u.toBitVec[i] <;> cases v.toBitVec[i] <;> rfl
  unfold bv_lr
  rw [e2, bv_nIo, bv_nIx]
  congr 1
  apply Nat.eq_of_testBit_eq
  intro i
  rw [bv_eqs_bit, Nat.testBit_xor, Nat.testBit_or, bv_rf_bit]
  by_cases hi : i < bn
  · rw [decide_eq_true hi]
    cases z : t.testBit i with
    | false => simp
    | true =>
      have h1 := bv_lst_le bn i hi z (br := br)
      have h2 := bv_lst_9 br t bn
      by_cases q : br i = bv_lst br t bn
      · have : ¬ bv_lst br t bn + 1 ≤ br i := by rw [bv_succ_le h2, q]; exact bv_irr _
        simp [q, this]
        rw [q] at this; exact Int32.not_le.mp this
      · have : bv_lst br t bn + 1 ≤ br i := (bv_succ_le h2).mpr (Int32.lt_of_le_of_ne h1 (fun z => q z.symm))
        simp [q, this]
  · rw [decide_eq_false hi]
    have : t.testBit i = false := Nat.testBit_lt_two_pow (Nat.lt_of_lt_of_le ht (Nat.pow_le_pow_right (by decide) (by omega)))
    simp [this]

set_option maxHeartbeats 4000000 in
set_option maxRecDepth 100000 in
theorem m_X4_load (l : Launch) (G : va_G) (cI : ClassId) (sz : Nat) (y yp yb yr yl pn bn : Nat) (th : Int32) (pf bs br lv : Nat → Int32) (hp : pn ≤ 12) (hn : bn ≤ 10) (hbr : ∀ j, j < bn → br j ≤ 9) : Met l yX4_load wsX4_load ({ frames := 3, cells := 0, slots := 0, locals := 65 }) (bv_P [.ref y] G cI (fun H => H.size = sz ∧ va_P G vwCl [(y, .inr (4, [.int th, .int (nI pn), .ref yp, .int (nI bn), .ref yb, .ref yr, .ref yl])), (yp, .inl (cI, 12, .inl pf)), (yb, .inl (cI, 10, .inl bs)), (yr, .inl (cI, 10, .inl br)), (yl, .inl (cI, 16, .inl lv))] H ∧ va_D (fun _ => True) [(y, .inr (4, [.int th, .int (nI pn), .ref yp, .int (nI bn), .ref yb, .ref yr, .ref yl])), (yp, .inl (cI, 12, .inl pf)), (yb, .inl (cI, 10, .inl bs)), (yr, .inl (cI, 10, .inl br)), (yl, .inl (cI, 16, .inl lv))])) (va_Qi (fun (r9 : Int32) (_ : Unit) => r9 = (bv_open (bv_loaded bs br bn lv))) (fun (_ : Unit) (T9 : State) => va_P G vwCl [(y, .inr (4, [.int 0, .int (nI pn), .ref yp, .int (nI bn), .ref yb, .ref yr, .ref yl])), (yp, .inl (cI, 12, .inl pf)), (yb, .inl (cI, 10, .inl bs)), (yr, .inl (cI, 10, .inl br)), (yl, .inl (cI, 16, .inl (bv_loaded bs br bn lv)))] T9.heap) (va_A [(y, .inr (4, [.int th, .int (nI pn), .ref yp, .int (nI bn), .ref yb, .ref yr, .ref yl])), (yp, .inl (cI, 12, .inl pf)), (yb, .inl (cI, 10, .inl bs)), (yr, .inl (cI, 10, .inl br)), (yl, .inl (cI, 16, .inl lv))] sz)) 0 0 (va_A [(y, .inr (4, [.int th, .int (nI pn), .ref yp, .int (nI bn), .ref yb, .ref yr, .ref yl])), (yp, .inl (cI, 12, .inl pf)), (yb, .inl (cI, 10, .inl bs)), (yr, .inl (cI, 10, .inl br)), (yl, .inl (cI, 16, .inl lv))] sz) := by
  refine Met.ofW (cc := cX4_load) (maxL := 3) (ret := (some .int)) (by decide) rfl ?_
  intro p e s m args below meth c s₁ B hml hv
  obtain ⟨rfl, ⟨hsz, hP, hD0⟩, hE⟩ := hv
  have hx := B.exec
  have hb := B.bytes
  have hr := B.returns
  have hts := atoms_spec (ws := wsX4_load) B.pre
  have hown : s.vm.findClass RX4 = some m.cls := findClass_of_methodNamed B.named
  have hlocks := B.notSynchronized
  have hK := hE.1
  have hw0 := hts (.fieldLink RX4 22 "BeliefReviserModel" "thrown" "I") (List.mem_of_getElem? (i := 1) rfl)
  have hw1 : ∀ w ∈ u_ws RX4 TX4 7, w ∈ wsX4_load := by decide +kernel
  have hw2 := hts (.constant RX4 51 65535) (List.mem_of_getElem? (i := 10) rfl)
  have hw3 := hts (.fieldLink RX4 19 "BeliefReviserModel" "levels" "[I") (List.mem_of_getElem? (i := 2) rfl)
  have hw4 := hts (.fieldLink RX4 26 "BeliefReviserModel" "size" "I") (List.mem_of_getElem? (i := 3) rfl)
  have hw5 := hts (.fieldLink RX4 13 "BeliefReviserModel" "base" "[I") (List.mem_of_getElem? (i := 4) rfl)
  have hw6 := hts (.static yX4_has) (List.mem_of_getElem? (i := 12) rfl)
  have hw7 := hts (.fieldLink RX4 16 "BeliefReviserModel" "ranks" "[I") (List.mem_of_getElem? (i := 5) rfl)
  have hw8 := hts (.methodLink RX4 106 Lib.Math.max.name) (List.mem_of_getElem? (i := 6) rfl)
  have hw9 := hts (.static Lib.Math.max.name) (List.mem_of_getElem? (i := 7) rfl)
  have hw10 := hts (.initialized "java/lang/Math") (List.mem_of_getElem? (i := 8) rfl)
  have hw11 := hts (.code Lib.Math.max.name Lib.Math.max.code 2 (some .int)) (List.mem_of_getElem? (i := 9) rfl)
  subst hsz
  have hD := hD0.self (sz := s.heap.size)
  generalize hAe : va_A [(y, .inr (4, [.int th, .int (nI pn), .ref yp, .int (nI bn), .ref yb, .ref yr, .ref yl])), (yp, .inl (cI, 12, .inl pf)), (yb, .inl (cI, 10, .inl bs)), (yr, .inl (cI, 10, .inl br)), (yl, .inl (cI, 16, .inl lv))] s.heap.size = A at hD ⊢
  have hA : ∀ q : Nat, s.heap.size ≤ q → A q := fun q h => by rw [← hAe]; exact Or.inr h
  have hS : va_S A s.heap s.heap [] := va_S.rf
  have hP : va_P G vwCl [(y, .inr (4, [.int th, .int (nI pn), .ref yp, .int (nI bn), .ref yb, .ref yr, .ref yl])), (yp, .inl (cI, 12, .inl pf)), (yb, .inl (cI, 10, .inl bs)), (yr, .inl (cI, 10, .inl br)), (yl, .inl (cI, 16, .inl lv))] s.heap := hP
  have hl := lv_entry ([.ref y]) (n := 3) (Nat.le_of_ble_eq_true rfl)
  rw [lg_entry_eq]
  generalize (lg_sl ([.ref y]) ++ List.replicate (3 - (lg_sl ([.ref y])).length) Slot.unset).toArray = ls at hl ⊢
  have hl : lv_has ls 3 [(0, .ref y)] := hl
  refine lv_aload_n (pc := 0) hx hb dX4_load_0 rfl (lv_at hl 0 rfl) ?_
  refine lv_iconst (pc := 1) (v := 0) hx hb dX4_load_1 (by decide) ?_
  refine va_put (pc := 2) (D := G) (ci := 4) (v := .int 0) (ty := .int) (C := RX4) (T := TX4) (N := 7) hx hb hts hw1 tyX4 tyX4_ok nmX4 hown hK hP hD hS 0 rfl rfl 0 (by decide) hw0 (fun _ h9 => h9) rfl (by decide +kernel) rfl rfl (Nat.le_of_ble_eq_true rfl) dX4_load_2 (fun H locs hP hD hS => ?_)
  have hP : va_P G vwCl [(y, .inr (4, [.int 0, .int (nI pn), .ref yp, .int (nI bn), .ref yb, .ref yr, .ref yl])), (yp, .inl (cI, 12, .inl pf)), (yb, .inl (cI, 10, .inl bs)), (yr, .inl (cI, 10, .inl br)), (yl, .inl (cI, 16, .inl lv))] H := hP
  have hD : va_D A [(y, .inr (4, [.int 0, .int (nI pn), .ref yp, .int (nI bn), .ref yb, .ref yr, .ref yl])), (yp, .inl (cI, 12, .inl pf)), (yb, .inl (cI, 10, .inl bs)), (yr, .inl (cI, 10, .inl br)), (yl, .inl (cI, 16, .inl lv))] := hD
  refine lv_iconst (pc := 5) (v := 0) hx hb dX4_load_5 (by decide) ?_
  refine lv_istore_n (pc := 6) (lv' := [(1, .int 0), (0, .ref y)]) hx hb dX4_load_6 rfl hl (by decide) rfl (fun ls hl => ?_)
  have loop_7 : ∀ (fu9 : Nat) (wv : Nat), 16 - wv < fu9 → (wv ≤ 16) → ∀ (H : Heap) (locs : List Loc), va_P G vwCl [(y, .inr (4, [.int 0, .int (nI pn), .ref yp, .int (nI bn), .ref yb, .ref yr, .ref yl])), (yp, .inl (cI, 12, .inl pf)), (yb, .inl (cI, 10, .inl bs)), (yr, .inl (cI, 10, .inl br)), (yl, .inl (cI, 16, .inl (bv_put1 lv (fun w => bv_gr bs br (nI w) bn) wv)))] H → va_D A [(y, .inr (4, [.int 0, .int (nI pn), .ref yp, .int (nI bn), .ref yb, .ref yr, .ref yl])), (yp, .inl (cI, 12, .inl pf)), (yb, .inl (cI, 10, .inl bs)), (yr, .inl (cI, 10, .inl br)), (yl, .inl (cI, 16, .inl (bv_put1 lv (fun w => bv_gr bs br (nI w) bn) wv)))] → va_S A s.heap H locs → ∀ (ls : Array Slot), lv_has ls 3 [(1, .int (nI wv)), (0, .ref y)] → W p l e (headSpec wsX4_load ({ frames := 3, cells := 0, slots := 0, locals := 65 })).room s m ([.ref y] : List Value).toArray below meth c H locs 0 0 (MQ below (va_Qi (fun (r9 : Int32) (_ : Unit) => r9 = (bv_open (bv_loaded bs br bn lv))) (fun (_ : Unit) (T9 : State) => va_P G vwCl [(y, .inr (4, [.int 0, .int (nI pn), .ref yp, .int (nI bn), .ref yb, .ref yr, .ref yl])), (yp, .inl (cI, 12, .inl pf)), (yb, .inl (cI, 10, .inl bs)), (yr, .inl (cI, 10, .inl br)), (yl, .inl (cI, 16, .inl (bv_loaded bs br bn lv)))] T9.heap) A) ([.ref y] : List Value).toArray s 0 0 A) (F0 m 7 ls []) := by
    intro fu9
    induction fu9 with
    | zero => intro wv hfu; exact absurd hfu (Nat.not_lt_zero _)
    | succ fu9 ih =>
      intro wv hfu hwv H locs hP hD hS ls hl
      have ih_7 := ih
      refine lv_iload_n (pc := 7) hx hb dX4_load_7 rfl (lv_at hl 0 rfl) ?_
      refine lv_bipush (pc := 8) (v := 16) hx hb dX4_load_8 (by decide) ?_
      refine lv_icmp_ge (pc := 10) (tgt := 76) hx hb dX4_load_10 (by decide) (fun c10_1 => ?_) (fun c10_1 => ?_)
      · have hkn : 16 = wv := by
          by_cases h : wv < 16
          · exact absurd (show nI 16 ≤ nI wv from c10_1) (nI_ge h (by omega))
          · omega
        subst hkn
        refine lv_aload_n (pc := 76) hx hb dX4_load_76 rfl (lv_at hl 1 rfl) ?_
        refine lv_ldc (pc := 77) hx hb hown hw2 dX4_load_77 ?_
        refine lv_aload_n (pc := 79) hx hb dX4_load_79 rfl (lv_at hl 1 rfl) ?_
        refine lv_ldc (pc := 80) hx hb hown hw2 dX4_load_80 ?_
        have hPc := hP.sub (ws' := [(y, .inr (4, [.int 0, .int (nI pn), .ref yp, .int (nI bn), .ref yb, .ref yr, .ref yl])), (yl, .inl (cI, 16, .inl (bv_put1 lv (fun w => bv_gr bs br (nI w) bn) 16)))]) [0, 4] rfl
        refine bv_cSi (pc := 82) (E' := (bv_ll (bv_put1 lv (fun w => bv_gr bs br (nI w) bn) 16) 65535 16)) (va_runV (As := [.int 65535]) (rest := [.int 65535, .ref y]) ⟨hx, hb, hml, hown, hts⟩ (m_X4_least l G cI y yp yb yr yl 0 (nI pn) (nI bn) (bv_put1 lv (fun w => bv_gr bs br (nI w) bn) 16) 65535 ) (cwV 1 hts gX4_load_X4_least rfl rfl rfl (by decide +kernel) ⟨Nat.le_of_ble_eq_true rfl, Nat.le_of_ble_eq_true rfl⟩) (bv_pV hE hPc (va_recv hK hP (ci := 4) (q0 := 0) rfl rfl)) rfl rfl hl.1 rfl (lv_room (Nat.le_of_ble_eq_true rfl)) dX4_load_82 ⟨Nat.le_of_ble_eq_true rfl, Nat.le_of_ble_eq_true rfl⟩) (bv_ls_eq (bv_load_b hbr) (by decide) (by decide)) ?_
        refine lv_ineg (pc := 85) hx hb dX4_load_85 ?_
        have hPc := hP.sub (ws' := [(y, .inr (4, [.int 0, .int (nI pn), .ref yp, .int (nI bn), .ref yb, .ref yr, .ref yl])), (yl, .inl (cI, 16, .inl (bv_put1 lv (fun w => bv_gr bs br (nI w) bn) 16)))]) [0, 4] rfl
        have hDc := hD.sub (ws' := [(y, .inr (4, [.int 0, .int (nI pn), .ref yp, .int (nI bn), .ref yb, .ref yr, .ref yl])), (yl, .inl (cI, 16, .inl (bv_put1 lv (fun w => bv_gr bs br (nI w) bn) 16)))]) [0, 4] (by decide) rfl
        have hFc := va_free (wc := [(y, .inr (4, [.int 0, .int (nI pn), .ref yp, .int (nI bn), .ref yb, .ref yr, .ref yl])), (yl, .inl (cI, 16, .inl (bv_put1 lv (fun w => bv_gr bs br (nI w) bn) 16)))]) hD hS hA [0, 4] rfl
        refine va_callv (pc := 86) (va_runV (As := [.int 65535, .int (-(bv_ll (bv_put1 lv (fun w => bv_gr bs br (nI w) bn) 16) 65535 16))]) (rest := []) ⟨hx, hb, hml, hown, hts⟩ (m_X4_add_ l G cI H.size y yp yb yr yl 0 (nI pn) (nI bn) (bv_put1 lv (fun w => bv_gr bs br (nI w) bn) 16) 65535 (-(bv_ll (bv_put1 lv (fun w => bv_gr bs br (nI w) bn) 16) 65535 16)) ) (cwV 2 hts gX4_load_X4_add_ rfl rfl rfl (by decide +kernel) ⟨Nat.le_of_ble_eq_true rfl, Nat.le_of_ble_eq_true rfl⟩) (bv_pV hE ⟨rfl, hPc, hDc.weaken (fun _ _ _ _ => trivial)⟩ (va_recv hK hP (ci := 4) (q0 := 0) rfl rfl)) rfl rfl hl.1 rfl (lv_room (Nat.le_of_ble_eq_true rfl)) dX4_load_86 ⟨Nat.le_of_ble_eq_true rfl, Nat.le_of_ble_eq_true rfl⟩) hS (fun q _ h => hFc q h) hFc (fun u8 t8 H1 locs ht8 hvm8 e_5 hB8 hz1 hk1 hS => ?_)
        have hP1 : va_P G vwCl [(y, .inr (4, [.int 0, .int (nI pn), .ref yp, .int (nI bn), .ref yb, .ref yr, .ref yl])), (yl, .inl (cI, 16, .inl (bv_sh (bv_put1 lv (fun w => bv_gr bs br (nI w) bn) 16) 65535 (-(bv_ll (bv_put1 lv (fun w => bv_gr bs br (nI w) bn) 16) 65535 16)) 16)))] H1 := by rw [← ht8]; exact hB8
        obtain ⟨hP, hD⟩ := va_join (wr := [(yp, .inl (cI, 12, .inl pf)), (yb, .inl (cI, 10, .inl bs)), (yr, .inl (cI, 10, .inl br))]) (w1 := [(y, .inr (4, [.int 0, .int (nI pn), .ref yp, .int (nI bn), .ref yb, .ref yr, .ref yl])), (yl, .inl (cI, 16, .inl (bv_sh (bv_put1 lv (fun w => bv_gr bs br (nI w) bn) 16) 65535 (-(bv_ll (bv_put1 lv (fun w => bv_gr bs br (nI w) bn) 16) 65535 16)) 16)))]) hP hD [0, 4] [1, 2, 3] rfl rfl (by decide) (by decide) hk1 hFc hP1 (bv_Dm (w0 := [(y, .inr (4, [.int 0, .int (nI pn), .ref yp, .int (nI bn), .ref yb, .ref yr, .ref yl])), (yl, .inl (cI, 16, .inl (bv_put1 lv (fun w => bv_gr bs br (nI w) bn) 16)))]) [y, yl] rfl rfl hDc.self)
        have hP : va_P G vwCl [(y, .inr (4, [.int 0, .int (nI pn), .ref yp, .int (nI bn), .ref yb, .ref yr, .ref yl])), (yp, .inl (cI, 12, .inl pf)), (yb, .inl (cI, 10, .inl bs)), (yr, .inl (cI, 10, .inl br)), (yl, .inl (cI, 16, .inl (bv_sh (bv_put1 lv (fun w => bv_gr bs br (nI w) bn) 16) 65535 (-(bv_ll (bv_put1 lv (fun w => bv_gr bs br (nI w) bn) 16) 65535 16)) 16)))] H1 := hP.sub (ws' := [(y, .inr (4, [.int 0, .int (nI pn), .ref yp, .int (nI bn), .ref yb, .ref yr, .ref yl])), (yp, .inl (cI, 12, .inl pf)), (yb, .inl (cI, 10, .inl bs)), (yr, .inl (cI, 10, .inl br)), (yl, .inl (cI, 16, .inl (bv_sh (bv_put1 lv (fun w => bv_gr bs br (nI w) bn) 16) 65535 (-(bv_ll (bv_put1 lv (fun w => bv_gr bs br (nI w) bn) 16) 65535 16)) 16)))]) [3, 0, 1, 2, 4] rfl
        have hD : va_D A [(y, .inr (4, [.int 0, .int (nI pn), .ref yp, .int (nI bn), .ref yb, .ref yr, .ref yl])), (yp, .inl (cI, 12, .inl pf)), (yb, .inl (cI, 10, .inl bs)), (yr, .inl (cI, 10, .inl br)), (yl, .inl (cI, 16, .inl (bv_sh (bv_put1 lv (fun w => bv_gr bs br (nI w) bn) 16) 65535 (-(bv_ll (bv_put1 lv (fun w => bv_gr bs br (nI w) bn) 16) 65535 16)) 16)))] := hD.sub (ws' := [(y, .inr (4, [.int 0, .int (nI pn), .ref yp, .int (nI bn), .ref yb, .ref yr, .ref yl])), (yp, .inl (cI, 12, .inl pf)), (yb, .inl (cI, 10, .inl bs)), (yr, .inl (cI, 10, .inl br)), (yl, .inl (cI, 16, .inl (bv_sh (bv_put1 lv (fun w => bv_gr bs br (nI w) bn) 16) 65535 (-(bv_ll (bv_put1 lv (fun w => bv_gr bs br (nI w) bn) 16) 65535 16)) 16)))]) [3, 0, 1, 2, 4] (by decide) rfl
        generalize H1 = H at hP hS ⊢
        refine lv_aload_n (pc := 89) hx hb dX4_load_89 rfl (lv_at hl 1 rfl) ?_
        have hPc := hP.sub (ws' := [(y, .inr (4, [.int 0, .int (nI pn), .ref yp, .int (nI bn), .ref yb, .ref yr, .ref yl])), (yl, .inl (cI, 16, .inl (bv_sh (bv_put1 lv (fun w => bv_gr bs br (nI w) bn) 16) 65535 (-(bv_ll (bv_put1 lv (fun w => bv_gr bs br (nI w) bn) 16) 65535 16)) 16)))]) [0, 4] rfl
        refine bv_cSi (pc := 90) (E' := (bv_open (bv_sh (bv_put1 lv (fun w => bv_gr bs br (nI w) bn) 16) 65535 (-(bv_ll (bv_put1 lv (fun w => bv_gr bs br (nI w) bn) 16) 65535 16)) 16))) (va_runV (As := []) (rest := []) ⟨hx, hb, hml, hown, hts⟩ (m_X4_possibleNow l G cI y yp yb yr yl 0 (nI pn) (nI bn) (bv_sh (bv_put1 lv (fun w => bv_gr bs br (nI w) bn) 16) 65535 (-(bv_ll (bv_put1 lv (fun w => bv_gr bs br (nI w) bn) 16) 65535 16)) 16) ) (cwV 0 hts gX4_load_X4_possibleNow rfl rfl rfl (by decide +kernel) ⟨Nat.le_of_ble_eq_true rfl, Nat.le_of_ble_eq_true rfl⟩) (bv_pV hE hPc (va_recv hK hP (ci := 4) (q0 := 0) rfl rfl)) rfl rfl hl.1 rfl (lv_room (Nat.le_of_ble_eq_true rfl)) dX4_load_90 ⟨Nat.le_of_ble_eq_true rfl, Nat.le_of_ble_eq_true rfl⟩) rfl ?_
        have hP9 : va_P G vwCl [(y, .inr (4, [.int 0, .int (nI pn), .ref yp, .int (nI bn), .ref yb, .ref yr, .ref yl])), (yp, .inl (cI, 12, .inl pf)), (yb, .inl (cI, 10, .inl bs)), (yr, .inl (cI, 10, .inl br)), (yl, .inl (cI, 16, .inl (bv_loaded bs br bn lv)))] H := by rw [bv_loaded, bv_load]; exact hP
        exact W.iret (pc := 93) (v := (bv_open (bv_sh (bv_put1 lv (fun w => bv_gr bs br (nI w) bn) 16) 65535 (-(bv_ll (bv_put1 lv (fun w => bv_gr bs br (nI w) bn) 16) 65535 16)) 16))) hx hb hr (fun T8 hT8 hW8 => ⟨⟨(bv_open (bv_sh (bv_put1 lv (fun w => bv_gr bs br (nI w) bn) 16) 65535 (-(bv_ll (bv_put1 lv (fun w => bv_gr bs br (nI w) bn) 16) 65535 16)) 16)), (), rfl, (by rw [bv_loaded, bv_load]), bv_hP hT8 hP9⟩, hS.F hT8⟩) hS.2.2 dX4_load_93
      · have hkn : wv < 16 := by
          by_cases h : wv < 16
          · exact h
          · exact absurd (show nI 16 ≤ nI wv from nI_le (by omega) (by omega)) c10_1
        refine lv_aload_n (pc := 13) hx hb dX4_load_13 rfl (lv_at hl 1 rfl) ?_
        refine va_get (pc := 14) (D := G) (ci := 4) (v := .ref yl) (C := RX4) (T := TX4) (N := 7) hx hb hts hw1 hown hK hP 0 rfl rfl 6 (by decide) hw3 (fun _ h9 => h9) rfl dX4_load_14 ?_
        refine lv_iload_n (pc := 17) hx hb dX4_load_17 rfl (lv_at hl 0 rfl) ?_
        refine lv_iconst (pc := 18) (v := 0) hx hb dX4_load_18 (by decide) ?_
        refine bv_ias (pc := 19) hx hb hK hP hD hS 4 0 rfl rfl (by omega) (by omega) dX4_load_19 (fun H locs hP hD hS => ?_)
        have hP : va_P G vwCl [(y, .inr (4, [.int 0, .int (nI pn), .ref yp, .int (nI bn), .ref yb, .ref yr, .ref yl])), (yp, .inl (cI, 12, .inl pf)), (yb, .inl (cI, 10, .inl bs)), (yr, .inl (cI, 10, .inl br)), (yl, .inl (cI, 16, .inl (upd (bv_put1 lv (fun w => bv_gr bs br (nI w) bn) wv) wv 0)))] H := hP
        have hD : va_D A [(y, .inr (4, [.int 0, .int (nI pn), .ref yp, .int (nI bn), .ref yb, .ref yr, .ref yl])), (yp, .inl (cI, 12, .inl pf)), (yb, .inl (cI, 10, .inl bs)), (yr, .inl (cI, 10, .inl br)), (yl, .inl (cI, 16, .inl (upd (bv_put1 lv (fun w => bv_gr bs br (nI w) bn) wv) wv 0)))] := hD
        refine lv_iconst (pc := 20) (v := 0) hx hb dX4_load_20 (by decide) ?_
        refine lv_istore_n (pc := 21) (lv' := [(2, .int 0), (1, .int (nI wv)), (0, .ref y)]) hx hb dX4_load_21 rfl hl (by decide) rfl (fun ls hl => ?_)
        have loop_22 : ∀ (fu9 : Nat) (k : Nat), bn - k < fu9 → (k ≤ bn) → ∀ (H : Heap) (locs : List Loc), va_P G vwCl [(y, .inr (4, [.int 0, .int (nI pn), .ref yp, .int (nI bn), .ref yb, .ref yr, .ref yl])), (yp, .inl (cI, 12, .inl pf)), (yb, .inl (cI, 10, .inl bs)), (yr, .inl (cI, 10, .inl br)), (yl, .inl (cI, 16, .inl (upd (bv_put1 lv (fun w => bv_gr bs br (nI w) bn) wv) wv (bv_gr bs br (nI wv) k))))] H → va_D A [(y, .inr (4, [.int 0, .int (nI pn), .ref yp, .int (nI bn), .ref yb, .ref yr, .ref yl])), (yp, .inl (cI, 12, .inl pf)), (yb, .inl (cI, 10, .inl bs)), (yr, .inl (cI, 10, .inl br)), (yl, .inl (cI, 16, .inl (upd (bv_put1 lv (fun w => bv_gr bs br (nI w) bn) wv) wv (bv_gr bs br (nI wv) k))))] → va_S A s.heap H locs → ∀ (ls : Array Slot), lv_has ls 3 [(2, .int (nI k)), (1, .int (nI wv)), (0, .ref y)] → W p l e (headSpec wsX4_load ({ frames := 3, cells := 0, slots := 0, locals := 65 })).room s m ([.ref y] : List Value).toArray below meth c H locs 0 0 (MQ below (va_Qi (fun (r9 : Int32) (_ : Unit) => r9 = (bv_open (bv_loaded bs br bn lv))) (fun (_ : Unit) (T9 : State) => va_P G vwCl [(y, .inr (4, [.int 0, .int (nI pn), .ref yp, .int (nI bn), .ref yb, .ref yr, .ref yl])), (yp, .inl (cI, 12, .inl pf)), (yb, .inl (cI, 10, .inl bs)), (yr, .inl (cI, 10, .inl br)), (yl, .inl (cI, 16, .inl (bv_loaded bs br bn lv)))] T9.heap) A) ([.ref y] : List Value).toArray s 0 0 A) (F0 m 22 ls []) := by
          intro fu9
          induction fu9 with
          | zero => intro k hfu; exact absurd hfu (Nat.not_lt_zero _)
          | succ fu9 ih =>
            intro k hfu hk H locs hP hD hS ls hl
            refine lv_iload_n (pc := 22) hx hb dX4_load_22 rfl (lv_at hl 0 rfl) ?_
            refine lv_aload_n (pc := 23) hx hb dX4_load_23 rfl (lv_at hl 2 rfl) ?_
            refine va_get (pc := 24) (D := G) (ci := 4) (v := .int (nI bn)) (C := RX4) (T := TX4) (N := 7) hx hb hts hw1 hown hK hP 0 rfl rfl 3 (by decide) hw4 (fun _ h9 => h9) rfl dX4_load_24 ?_
            refine lv_icmp_ge (pc := 27) (tgt := 70) hx hb dX4_load_27 (by decide) (fun c27_8 => ?_) (fun c27_8 => ?_)
            · have hkn : bn = k := by
                by_cases h : k < bn
                · exact absurd c27_8 (nI_ge h (by omega))
                · omega
              subst hkn
              refine lv_iinc (pc := 70) (v := (nI (wv + 1))) (lv' := [(1, .int (nI (wv + 1))), (2, .int (nI bn)), (0, .ref y)]) hx hb dX4_load_70 hl (k := 1) rfl (nI_1 wv) (by decide) rfl (fun ls hl => ?_)
              refine lv_goto (pc := 73) (tgt := 7) hx hb dX4_load_73 (by decide) ?_
              rw [show (upd (bv_put1 lv (fun w => bv_gr bs br (nI w) bn) wv) wv (bv_gr bs br (nI wv) bn)) = (bv_put1 lv (fun w => bv_gr bs br (nI w) bn) (wv + 1)) from bv_put1_s rfl] at hP hD
              exact ih_7 (wv + 1) (by omega) (by omega) H _ hP hD hS ls (lv_sub hl [0, 2] rfl)
            · have hkn : k < bn := by
                by_cases h : k < bn
                · exact h
                · exact absurd (nI_le (by omega) (by omega)) c27_8
              refine lv_aload_n (pc := 30) hx hb dX4_load_30 rfl (lv_at hl 2 rfl) ?_
              refine va_get (pc := 31) (D := G) (ci := 4) (v := .ref yb) (C := RX4) (T := TX4) (N := 7) hx hb hts hw1 hown hK hP 0 rfl rfl 4 (by decide) hw5 (fun _ h9 => h9) rfl dX4_load_31 ?_
              refine lv_iload_n (pc := 34) hx hb dX4_load_34 rfl (lv_at hl 0 rfl) ?_
              refine bv_ial (pc := 35) hx hb hK hP 2 0 rfl rfl (by omega) (by omega) dX4_load_35 ?_
              refine lv_iload_n (pc := 36) hx hb dX4_load_36 rfl (lv_at hl 1 rfl) ?_
              have hPc := hP.sub (ws' := []) [] rfl
              refine bv_cSi (pc := 37) (E' := (bv_b (bv_has (bs k) (nI wv)))) (va_runS (As := [.int (bs k), .int (nI wv)]) (rest := []) ⟨hx, hb, hml, hown, hts⟩ (m_X4_has l G cI (bs k) (nI wv) ) (va_cwS 2 hts gX4_load_X4_has rfl rfl rfl (by decide +kernel) ⟨Nat.le_of_ble_eq_true rfl, Nat.le_of_ble_eq_true rfl⟩) (bv_pS hE hPc) rfl rfl hl.1 rfl (lv_room (Nat.le_of_ble_eq_true rfl)) dX4_load_37 ⟨Nat.le_of_ble_eq_true rfl, Nat.le_of_ble_eq_true rfl⟩) rfl ?_
              refine lv_if_ne (pc := 40) (tgt := 64) hx hb dX4_load_40 (by decide) (fun c40_11 => ?_) (fun c40_11 => ?_)
              · have h2 := bv_b1.mp c40_11
                refine lv_iinc (pc := 64) (v := (nI (k + 1))) (lv' := [(2, .int (nI (k + 1))), (1, .int (nI wv)), (0, .ref y)]) hx hb dX4_load_64 hl (k := 0) rfl (nI_1 k) (by decide) rfl (fun ls hl => ?_)
                refine lv_goto (pc := 67) (tgt := 22) hx hb dX4_load_67 (by decide) ?_
                rw [show (upd (bv_put1 lv (fun w => bv_gr bs br (nI w) bn) wv) wv (bv_gr bs br (nI wv) k)) = (upd (bv_put1 lv (fun w => bv_gr bs br (nI w) bn) wv) wv (bv_gr bs br (nI wv) (k + 1))) from by rw [bv_gr, if_pos h2]] at hP hD
                exact ih (k + 1) (by omega) (by omega) H _ hP hD hS ls (lv_sub hl [0, 1, 2] rfl)
              · have h2 := bv_b0.mp c40_11
                refine lv_aload_n (pc := 43) hx hb dX4_load_43 rfl (lv_at hl 2 rfl) ?_
                refine va_get (pc := 44) (D := G) (ci := 4) (v := .ref yl) (C := RX4) (T := TX4) (N := 7) hx hb hts hw1 hown hK hP 0 rfl rfl 6 (by decide) hw3 (fun _ h9 => h9) rfl dX4_load_44 ?_
                refine lv_iload_n (pc := 47) hx hb dX4_load_47 rfl (lv_at hl 1 rfl) ?_
                refine lv_aload_n (pc := 48) hx hb dX4_load_48 rfl (lv_at hl 2 rfl) ?_
                refine va_get (pc := 49) (D := G) (ci := 4) (v := .ref yl) (C := RX4) (T := TX4) (N := 7) hx hb hts hw1 hown hK hP 0 rfl rfl 6 (by decide) hw3 (fun _ h9 => h9) rfl dX4_load_49 ?_
                refine lv_iload_n (pc := 52) hx hb dX4_load_52 rfl (lv_at hl 1 rfl) ?_
                refine va_iald (pc := 53) hx hb hK hP 4 0 rfl rfl (vp_in_nI (by omega) (by decide)) dX4_load_53 ?_
                rw [show ((upd (bv_put1 lv (fun w => bv_gr bs br (nI w) bn) wv) wv (bv_gr bs br (nI wv) k)) (nI wv).toNatClampNeg) = (bv_gr bs br (nI wv) k) from by rw [nI_clamp (by omega)]; exact pk_us]
                refine lv_aload_n (pc := 54) hx hb dX4_load_54 rfl (lv_at hl 2 rfl) ?_
                refine va_get (pc := 55) (D := G) (ci := 4) (v := .ref yr) (C := RX4) (T := TX4) (N := 7) hx hb hts hw1 hown hK hP 0 rfl rfl 5 (by decide) hw7 (fun _ h9 => h9) rfl dX4_load_55 ?_
                refine lv_iload_n (pc := 58) hx hb dX4_load_58 rfl (lv_at hl 0 rfl) ?_
                refine bv_ial (pc := 59) hx hb hK hP 3 0 rfl rfl (by omega) (by omega) dX4_load_59 ?_
                refine va_mmax (pc := 60) hx hb (hml.trans hl.1.symm) hown hw8 hw9 hw10 hw11 (Nat.le_of_ble_eq_true rfl) (Nat.le_of_ble_eq_true rfl) (Nat.le_of_ble_eq_true rfl) (Nat.le_of_ble_eq_true rfl) dX4_load_60 ?_
                rw [show (if (bv_gr bs br (nI wv) k) < (br k) then (br k) else (bv_gr bs br (nI wv) k)) = (bv_max (bv_gr bs br (nI wv) k) (br k)) from rfl]
                refine va_iast (pc := 63) hx hb hK hP hD hS 4 0 rfl rfl (vp_in_nI (by omega) (by decide)) dX4_load_63 (fun H locs hP hD hS => ?_)
                have hP : va_P G vwCl [(y, .inr (4, [.int 0, .int (nI pn), .ref yp, .int (nI bn), .ref yb, .ref yr, .ref yl])), (yp, .inl (cI, 12, .inl pf)), (yb, .inl (cI, 10, .inl bs)), (yr, .inl (cI, 10, .inl br)), (yl, .inl (cI, 16, .inl (upd (upd (bv_put1 lv (fun w => bv_gr bs br (nI w) bn) wv) wv (bv_gr bs br (nI wv) k)) (nI wv).toNatClampNeg (bv_max (bv_gr bs br (nI wv) k) (br k)))))] H := hP
                have hD : va_D A [(y, .inr (4, [.int 0, .int (nI pn), .ref yp, .int (nI bn), .ref yb, .ref yr, .ref yl])), (yp, .inl (cI, 12, .inl pf)), (yb, .inl (cI, 10, .inl bs)), (yr, .inl (cI, 10, .inl br)), (yl, .inl (cI, 16, .inl (upd (upd (bv_put1 lv (fun w => bv_gr bs br (nI w) bn) wv) wv (bv_gr bs br (nI wv) k)) (nI wv).toNatClampNeg (bv_max (bv_gr bs br (nI wv) k) (br k)))))] := hD
                rw [show (upd (upd (bv_put1 lv (fun w => bv_gr bs br (nI w) bn) wv) wv (bv_gr bs br (nI wv) k)) (nI wv).toNatClampNeg (bv_max (bv_gr bs br (nI wv) k) (br k))) = (upd (bv_put1 lv (fun w => bv_gr bs br (nI w) bn) wv) wv (bv_gr bs br (nI wv) (k + 1))) from by rw [nI_clamp (by omega), bv_uu, bv_gr, h2]; rfl] at hP hD
                refine lv_iinc (pc := 64) (v := (nI (k + 1))) (lv' := [(2, .int (nI (k + 1))), (1, .int (nI wv)), (0, .ref y)]) hx hb dX4_load_64 hl (k := 0) rfl (nI_1 k) (by decide) rfl (fun ls hl => ?_)
                refine lv_goto (pc := 67) (tgt := 22) hx hb dX4_load_67 (by decide) ?_
                exact ih (k + 1) (by omega) (by omega) H _ hP hD hS ls (lv_sub hl [0, 1, 2] rfl)
        exact loop_22 (bn - 0 + 1) 0 (Nat.lt_succ_self _) (Nat.zero_le _) H _ hP hD hS ls (lv_sub hl [0, 1, 2] rfl)
  rw [← bv_put1_0 (f := lv) (g := (fun w => bv_gr bs br (nI w) bn))] at hP hD
  exact loop_7 (16 - 0 + 1) 0 (Nat.lt_succ_self _) (Nat.zero_le _) H _ hP hD hS ls (lv_sub hl [0, 1] rfl)
set_option maxHeartbeats 4000000 in
set_option maxRecDepth 100000 in
theorem m_X4_digest (l : Launch) (G : va_G) (cI : ClassId) (sz : Nat) (y yp yb yr yl pn bn : Nat) (th : Int32) (pf bs br lv : Nat → Int32) (hp : pn ≤ 12) (hn : bn ≤ 10) : Met l yX4_digest wsX4_digest ({ frames := 4, cells := 0, slots := 0, locals := 88 }) (bv_P [.ref y] G cI (fun H => H.size = sz ∧ va_P G vwCl [(y, .inr (4, [.int th, .int (nI pn), .ref yp, .int (nI bn), .ref yb, .ref yr, .ref yl])), (yp, .inl (cI, 12, .inl pf)), (yb, .inl (cI, 10, .inl bs)), (yr, .inl (cI, 10, .inl br)), (yl, .inl (cI, 16, .inl lv))] H ∧ va_D (fun _ => True) [(y, .inr (4, [.int th, .int (nI pn), .ref yp, .int (nI bn), .ref yb, .ref yr, .ref yl])), (yp, .inl (cI, 12, .inl pf)), (yb, .inl (cI, 10, .inl bs)), (yr, .inl (cI, 10, .inl br)), (yl, .inl (cI, 16, .inl lv))])) (va_Ql (fun (r9 : Int64) (_ : Unit) => r9 = (bv_ldig (bv_dstep (bv_bdig (bv_dstep (bv_pdig (bv_dstep 191 (nI pn)) pf pn) (nI bn)) bs br bn) (nI (bv_degn bs br bn 0))) lv 16)) (fun (_ : Unit) (T9 : State) => va_P G vwCl [(y, .inr (4, [.int 0, .int (nI pn), .ref yp, .int (nI bn), .ref yb, .ref yr, .ref yl])), (yp, .inl (cI, 12, .inl pf)), (yb, .inl (cI, 10, .inl bs)), (yr, .inl (cI, 10, .inl br)), (yl, .inl (cI, 16, .inl lv))] T9.heap) (va_A [(y, .inr (4, [.int th, .int (nI pn), .ref yp, .int (nI bn), .ref yb, .ref yr, .ref yl])), (yp, .inl (cI, 12, .inl pf)), (yb, .inl (cI, 10, .inl bs)), (yr, .inl (cI, 10, .inl br)), (yl, .inl (cI, 16, .inl lv))] sz)) 0 0 (va_A [(y, .inr (4, [.int th, .int (nI pn), .ref yp, .int (nI bn), .ref yb, .ref yr, .ref yl])), (yp, .inl (cI, 12, .inl pf)), (yb, .inl (cI, 10, .inl bs)), (yr, .inl (cI, 10, .inl br)), (yl, .inl (cI, 16, .inl lv))] sz) := by
  refine Met.ofW (cc := cX4_digest) (maxL := 7) (ret := (some .long)) (by decide) rfl ?_
  intro p e s m args below meth c s₁ B hml hv
  obtain ⟨rfl, ⟨hsz, hP, hD0⟩, hE⟩ := hv
  have hx := B.exec
  have hb := B.bytes
  have hr := B.returns
  have hts := atoms_spec (ws := wsX4_digest) B.pre
  have hown : s.vm.findClass RX4 = some m.cls := findClass_of_methodNamed B.named
  have hlocks := B.notSynchronized
  have hK := hE.1
  have hw0 := hts (.fieldLink RX4 22 "BeliefReviserModel" "thrown" "I") (List.mem_of_getElem? (i := 1) rfl)
  have hw1 : ∀ w ∈ u_ws RX4 TX4 7, w ∈ wsX4_digest := by decide +kernel
  have hw2 := hts (.constantLong RX4 133 5921) (List.mem_of_getElem? (i := 2) rfl)
  have hw3 := hts (.fieldLink RX4 33 "BeliefReviserModel" "high" "I") (List.mem_of_getElem? (i := 3) rfl)
  have hw4 := hts (.constantLong RX4 135 31) (List.mem_of_getElem? (i := 4) rfl)
  have hw5 := hts (.fieldLink RX4 26 "BeliefReviserModel" "size" "I") (List.mem_of_getElem? (i := 6) rfl)
  have hw6 := hts (.fieldLink RX4 19 "BeliefReviserModel" "levels" "[I") (List.mem_of_getElem? (i := 9) rfl)
  have hw7 := hts (.fieldLink RX4 13 "BeliefReviserModel" "base" "[I") (List.mem_of_getElem? (i := 7) rfl)
  have hw8 := hts (.fieldLink RX4 16 "BeliefReviserModel" "ranks" "[I") (List.mem_of_getElem? (i := 8) rfl)
  have hw9 := hts (.fieldLink RX4 9 "BeliefReviserModel" "pile" "[I") (List.mem_of_getElem? (i := 5) rfl)
  subst hsz
  have hD := hD0.self (sz := s.heap.size)
  generalize hAe : va_A [(y, .inr (4, [.int th, .int (nI pn), .ref yp, .int (nI bn), .ref yb, .ref yr, .ref yl])), (yp, .inl (cI, 12, .inl pf)), (yb, .inl (cI, 10, .inl bs)), (yr, .inl (cI, 10, .inl br)), (yl, .inl (cI, 16, .inl lv))] s.heap.size = A at hD ⊢
  have hA : ∀ q : Nat, s.heap.size ≤ q → A q := fun q h => by rw [← hAe]; exact Or.inr h
  have hS : va_S A s.heap s.heap [] := va_S.rf
  have hP : va_P G vwCl [(y, .inr (4, [.int th, .int (nI pn), .ref yp, .int (nI bn), .ref yb, .ref yr, .ref yl])), (yp, .inl (cI, 12, .inl pf)), (yb, .inl (cI, 10, .inl bs)), (yr, .inl (cI, 10, .inl br)), (yl, .inl (cI, 16, .inl lv))] s.heap := hP
  have hl := lv_entry ([.ref y]) (n := 7) (Nat.le_of_ble_eq_true rfl)
  rw [lg_entry_eq]
  generalize (lg_sl ([.ref y]) ++ List.replicate (7 - (lg_sl ([.ref y])).length) Slot.unset).toArray = ls at hl ⊢
  have hl : lv_has ls 7 [(0, .ref y)] := hl
  refine lv_aload_n (pc := 0) hx hb dX4_digest_0 rfl (lv_at hl 0 rfl) ?_
  refine lv_iconst (pc := 1) (v := 0) hx hb dX4_digest_1 (by decide) ?_
  refine va_put (pc := 2) (D := G) (ci := 4) (v := .int 0) (ty := .int) (C := RX4) (T := TX4) (N := 7) hx hb hts hw1 tyX4 tyX4_ok nmX4 hown hK hP hD hS 0 rfl rfl 0 (by decide) hw0 (fun _ h9 => h9) rfl (by decide +kernel) rfl rfl (Nat.le_of_ble_eq_true rfl) dX4_digest_2 (fun H locs hP hD hS => ?_)
  have hP : va_P G vwCl [(y, .inr (4, [.int 0, .int (nI pn), .ref yp, .int (nI bn), .ref yb, .ref yr, .ref yl])), (yp, .inl (cI, 12, .inl pf)), (yb, .inl (cI, 10, .inl bs)), (yr, .inl (cI, 10, .inl br)), (yl, .inl (cI, 16, .inl lv))] H := hP
  have hD : va_D A [(y, .inr (4, [.int 0, .int (nI pn), .ref yp, .int (nI bn), .ref yb, .ref yr, .ref yl])), (yp, .inl (cI, 12, .inl pf)), (yb, .inl (cI, 10, .inl bs)), (yr, .inl (cI, 10, .inl br)), (yl, .inl (cI, 16, .inl lv))] := hD
  refine lv_ldc2 (pc := 5) hx hb hown hw2 dX4_digest_5 ?_
  refine lv_aload_n (pc := 8) hx hb dX4_digest_8 rfl (lv_at hl 0 rfl) ?_
  refine va_get (pc := 9) (D := G) (ci := 4) (v := .int (nI pn)) (C := RX4) (T := TX4) (N := 7) hx hb hts hw1 hown hK hP 0 rfl rfl 1 (by decide) hw3 (fun _ h9 => h9) rfl dX4_digest_9 ?_
  refine lv_i2l (pc := 12) (v := ((nI pn).toInt64)) hx hb dX4_digest_12 rfl ?_
  refine lv_ladd (pc := 13) hx hb dX4_digest_13 ?_
  refine lv_lstore_n (pc := 14) (lv' := [(1, .long (5921 + ((nI pn).toInt64))), (0, .ref y)]) hx hb dX4_digest_14 rfl hl (by decide) rfl (fun ls hl => ?_)
  refine lv_iconst (pc := 15) (v := 0) hx hb dX4_digest_15 (by decide) ?_
  refine lv_istore_n (pc := 16) (lv' := [(3, .int 0), (1, .long (5921 + ((nI pn).toInt64))), (0, .ref y)]) hx hb dX4_digest_16 rfl hl (by decide) rfl (fun ls hl => ?_)
  have loop_17 : ∀ (fu9 : Nat) (k : Nat) (a : Int64), pn - k < fu9 → (k ≤ pn) → (a = bv_pdig (bv_dstep 191 (nI pn)) pf k) → ∀ (H : Heap) (locs : List Loc), va_P G vwCl [(y, .inr (4, [.int 0, .int (nI pn), .ref yp, .int (nI bn), .ref yb, .ref yr, .ref yl])), (yp, .inl (cI, 12, .inl pf)), (yb, .inl (cI, 10, .inl bs)), (yr, .inl (cI, 10, .inl br)), (yl, .inl (cI, 16, .inl lv))] H → va_D A [(y, .inr (4, [.int 0, .int (nI pn), .ref yp, .int (nI bn), .ref yb, .ref yr, .ref yl])), (yp, .inl (cI, 12, .inl pf)), (yb, .inl (cI, 10, .inl bs)), (yr, .inl (cI, 10, .inl br)), (yl, .inl (cI, 16, .inl lv))] → va_S A s.heap H locs → ∀ (ls : Array Slot), lv_has ls 7 [(3, .int (nI k)), (1, .long a), (0, .ref y)] → W p l e (headSpec wsX4_digest ({ frames := 4, cells := 0, slots := 0, locals := 88 })).room s m ([.ref y] : List Value).toArray below meth c H locs 0 0 (MQ below (va_Ql (fun (r9 : Int64) (_ : Unit) => r9 = (bv_ldig (bv_dstep (bv_bdig (bv_dstep (bv_pdig (bv_dstep 191 (nI pn)) pf pn) (nI bn)) bs br bn) (nI (bv_degn bs br bn 0))) lv 16)) (fun (_ : Unit) (T9 : State) => va_P G vwCl [(y, .inr (4, [.int 0, .int (nI pn), .ref yp, .int (nI bn), .ref yb, .ref yr, .ref yl])), (yp, .inl (cI, 12, .inl pf)), (yb, .inl (cI, 10, .inl bs)), (yr, .inl (cI, 10, .inl br)), (yl, .inl (cI, 16, .inl lv))] T9.heap) A) ([.ref y] : List Value).toArray s 0 0 A) (F0 m 17 ls []) := by
    intro fu9
    induction fu9 with
    | zero => intro k a hfu; exact absurd hfu (Nat.not_lt_zero _)
    | succ fu9 ih =>
      intro k a hfu hk hi H locs hP hD hS ls hl
      refine lv_iload_n (pc := 17) hx hb dX4_digest_17 rfl (lv_at hl 0 rfl) ?_
      refine lv_aload_n (pc := 18) hx hb dX4_digest_18 rfl (lv_at hl 2 rfl) ?_
      refine va_get (pc := 19) (D := G) (ci := 4) (v := .int (nI pn)) (C := RX4) (T := TX4) (N := 7) hx hb hts hw1 hown hK hP 0 rfl rfl 1 (by decide) hw3 (fun _ h9 => h9) rfl dX4_digest_19 ?_
      refine lv_icmp_ge (pc := 22) (tgt := 45) hx hb dX4_digest_22 (by decide) (fun c22_1 => ?_) (fun c22_1 => ?_)
      · have hkn : pn = k := by
          by_cases h : k < pn
          · exact absurd c22_1 (nI_ge h (by omega))
          · omega
        subst hkn
        refine lv_lload_n (pc := 45) hx hb dX4_digest_45 rfl (lv_at hl 1 rfl) ?_
        refine lv_ldc2 (pc := 46) hx hb hown hw4 dX4_digest_46 ?_
        refine lv_lmul (pc := 49) hx hb dX4_digest_49 ?_
        refine lv_aload_n (pc := 50) hx hb dX4_digest_50 rfl (lv_at hl 2 rfl) ?_
        refine va_get (pc := 51) (D := G) (ci := 4) (v := .int (nI bn)) (C := RX4) (T := TX4) (N := 7) hx hb hts hw1 hown hK hP 0 rfl rfl 3 (by decide) hw5 (fun _ h9 => h9) rfl dX4_digest_51 ?_
        refine lv_i2l (pc := 54) (v := ((nI bn).toInt64)) hx hb dX4_digest_54 rfl ?_
        refine lv_ladd (pc := 55) hx hb dX4_digest_55 ?_
        refine lv_lstore_n (pc := 56) (lv' := [(1, .long ((a * 31) + ((nI bn).toInt64))), (3, .int (nI pn)), (0, .ref y)]) hx hb dX4_digest_56 rfl hl (by decide) rfl (fun ls hl => ?_)
        refine lv_iconst (pc := 57) (v := 0) hx hb dX4_digest_57 (by decide) ?_
        refine lv_istore_n (pc := 58) (lv' := [(3, .int 0), (1, .long ((a * 31) + ((nI bn).toInt64))), (0, .ref y)]) hx hb dX4_digest_58 rfl hl (by decide) rfl (fun ls hl => ?_)
        have loop_59 : ∀ (fu9 : Nat) (k : Nat) (a : Int64), bn - k < fu9 → (k ≤ bn) → (a = bv_bdig (bv_dstep (bv_pdig (bv_dstep 191 (nI pn)) pf pn) (nI bn)) bs br k) → ∀ (H : Heap) (locs : List Loc), va_P G vwCl [(y, .inr (4, [.int 0, .int (nI pn), .ref yp, .int (nI bn), .ref yb, .ref yr, .ref yl])), (yp, .inl (cI, 12, .inl pf)), (yb, .inl (cI, 10, .inl bs)), (yr, .inl (cI, 10, .inl br)), (yl, .inl (cI, 16, .inl lv))] H → va_D A [(y, .inr (4, [.int 0, .int (nI pn), .ref yp, .int (nI bn), .ref yb, .ref yr, .ref yl])), (yp, .inl (cI, 12, .inl pf)), (yb, .inl (cI, 10, .inl bs)), (yr, .inl (cI, 10, .inl br)), (yl, .inl (cI, 16, .inl lv))] → va_S A s.heap H locs → ∀ (ls : Array Slot), lv_has ls 7 [(3, .int (nI k)), (1, .long a), (0, .ref y)] → W p l e (headSpec wsX4_digest ({ frames := 4, cells := 0, slots := 0, locals := 88 })).room s m ([.ref y] : List Value).toArray below meth c H locs 0 0 (MQ below (va_Ql (fun (r9 : Int64) (_ : Unit) => r9 = (bv_ldig (bv_dstep (bv_bdig (bv_dstep (bv_pdig (bv_dstep 191 (nI pn)) pf pn) (nI bn)) bs br bn) (nI (bv_degn bs br bn 0))) lv 16)) (fun (_ : Unit) (T9 : State) => va_P G vwCl [(y, .inr (4, [.int 0, .int (nI pn), .ref yp, .int (nI bn), .ref yb, .ref yr, .ref yl])), (yp, .inl (cI, 12, .inl pf)), (yb, .inl (cI, 10, .inl bs)), (yr, .inl (cI, 10, .inl br)), (yl, .inl (cI, 16, .inl lv))] T9.heap) A) ([.ref y] : List Value).toArray s 0 0 A) (F0 m 59 ls []) := by
          intro fu9
          induction fu9 with
          | zero => intro k a hfu; exact absurd hfu (Nat.not_lt_zero _)
          | succ fu9 ih =>
            intro k a hfu hk hi H locs hP hD hS ls hl
            refine lv_iload_n (pc := 59) hx hb dX4_digest_59 rfl (lv_at hl 0 rfl) ?_
            refine lv_aload_n (pc := 60) hx hb dX4_digest_60 rfl (lv_at hl 2 rfl) ?_
            refine va_get (pc := 61) (D := G) (ci := 4) (v := .int (nI bn)) (C := RX4) (T := TX4) (N := 7) hx hb hts hw1 hown hK hP 0 rfl rfl 3 (by decide) hw5 (fun _ h9 => h9) rfl dX4_digest_61 ?_
            refine lv_icmp_ge (pc := 64) (tgt := 99) hx hb dX4_digest_64 (by decide) (fun c64_2 => ?_) (fun c64_2 => ?_)
            · have hkn : bn = k := by
                by_cases h : k < bn
                · exact absurd c64_2 (nI_ge h (by omega))
                · omega
              subst hkn
              refine lv_lload_n (pc := 99) hx hb dX4_digest_99 rfl (lv_at hl 1 rfl) ?_
              refine lv_ldc2 (pc := 100) hx hb hown hw4 dX4_digest_100 ?_
              refine lv_lmul (pc := 103) hx hb dX4_digest_103 ?_
              refine lv_aload_n (pc := 104) hx hb dX4_digest_104 rfl (lv_at hl 2 rfl) ?_
              refine lv_iconst (pc := 105) (v := 0) hx hb dX4_digest_105 (by decide) ?_
              have hPc := hP.sub (ws' := [(y, .inr (4, [.int 0, .int (nI pn), .ref yp, .int (nI bn), .ref yb, .ref yr, .ref yl])), (yb, .inl (cI, 10, .inl bs)), (yr, .inl (cI, 10, .inl br))]) [0, 2, 3] rfl
              refine bv_cSi (pc := 106) (E' := (nI (bv_degn bs br bn 0))) (va_runV (As := [.int 0]) (rest := [.long (a * 31)]) ⟨hx, hb, hml, hown, hts⟩ (m_X4_degreeOf l G cI y yp yb yr yl bn 0 (nI pn) bs br 0 hn) (cwV 1 hts gX4_digest_X4_degreeOf rfl rfl rfl (by decide +kernel) ⟨Nat.le_of_ble_eq_true rfl, Nat.le_of_ble_eq_true rfl⟩) (bv_pV hE hPc (va_recv hK hP (ci := 4) (q0 := 0) rfl rfl)) rfl rfl hl.1 rfl (lv_room (Nat.le_of_ble_eq_true rfl)) dX4_digest_106 ⟨Nat.le_of_ble_eq_true rfl, Nat.le_of_ble_eq_true rfl⟩) rfl ?_
              refine lv_i2l (pc := 109) (v := ((nI (bv_degn bs br bn 0)).toInt64)) hx hb dX4_digest_109 rfl ?_
              refine lv_ladd (pc := 110) hx hb dX4_digest_110 ?_
              refine lv_lstore_n (pc := 111) (lv' := [(1, .long ((a * 31) + ((nI (bv_degn bs br bn 0)).toInt64))), (3, .int (nI bn)), (0, .ref y)]) hx hb dX4_digest_111 rfl hl (by decide) rfl (fun ls hl => ?_)
              refine lv_aload_n (pc := 112) hx hb dX4_digest_112 rfl (lv_at hl 2 rfl) ?_
              refine va_get (pc := 113) (D := G) (ci := 4) (v := .ref yl) (C := RX4) (T := TX4) (N := 7) hx hb hts hw1 hown hK hP 0 rfl rfl 6 (by decide) hw6 (fun _ h9 => h9) rfl dX4_digest_113 ?_
              refine lv_astore_n (pc := 116) (lv' := [(3, .ref yl), (1, .long ((a * 31) + ((nI (bv_degn bs br bn 0)).toInt64))), (0, .ref y)]) hx hb dX4_digest_116 rfl hl (by decide) rfl (fun ls hl => ?_)
              refine lv_aload_n (pc := 117) hx hb dX4_digest_117 rfl (lv_at hl 0 rfl) ?_
              refine va_alen (pc := 118) (v := (nI 16)) hx hb hK hP 4 0 rfl rfl rfl dX4_digest_118 ?_
              refine lv_istore (pc := 119) (lv' := [(4, .int (nI 16)), (3, .ref yl), (1, .long ((a * 31) + ((nI (bv_degn bs br bn 0)).toInt64))), (0, .ref y)]) hx hb dX4_digest_119 hl (by decide) rfl (fun ls hl => ?_)
              refine lv_iconst (pc := 121) (v := 0) hx hb dX4_digest_121 (by decide) ?_
              refine lv_istore (pc := 122) (lv' := [(5, .int 0), (4, .int (nI 16)), (3, .ref yl), (1, .long ((a * 31) + ((nI (bv_degn bs br bn 0)).toInt64))), (0, .ref y)]) hx hb dX4_digest_122 hl (by decide) rfl (fun ls hl => ?_)
              have loop_124 : ∀ (fu9 : Nat) (k : Nat) (a : Int64), 16 - k < fu9 → (k ≤ 16) → (a = bv_ldig (bv_dstep (bv_bdig (bv_dstep (bv_pdig (bv_dstep 191 (nI pn)) pf pn) (nI bn)) bs br bn) (nI (bv_degn bs br bn 0))) lv k) → ∀ (H : Heap) (locs : List Loc), va_P G vwCl [(y, .inr (4, [.int 0, .int (nI pn), .ref yp, .int (nI bn), .ref yb, .ref yr, .ref yl])), (yp, .inl (cI, 12, .inl pf)), (yb, .inl (cI, 10, .inl bs)), (yr, .inl (cI, 10, .inl br)), (yl, .inl (cI, 16, .inl lv))] H → va_D A [(y, .inr (4, [.int 0, .int (nI pn), .ref yp, .int (nI bn), .ref yb, .ref yr, .ref yl])), (yp, .inl (cI, 12, .inl pf)), (yb, .inl (cI, 10, .inl bs)), (yr, .inl (cI, 10, .inl br)), (yl, .inl (cI, 16, .inl lv))] → va_S A s.heap H locs → ∀ (ls : Array Slot), lv_has ls 7 [(5, .int (nI k)), (4, .int (nI 16)), (3, .ref yl), (1, .long a), (0, .ref y)] → W p l e (headSpec wsX4_digest ({ frames := 4, cells := 0, slots := 0, locals := 88 })).room s m ([.ref y] : List Value).toArray below meth c H locs 0 0 (MQ below (va_Ql (fun (r9 : Int64) (_ : Unit) => r9 = (bv_ldig (bv_dstep (bv_bdig (bv_dstep (bv_pdig (bv_dstep 191 (nI pn)) pf pn) (nI bn)) bs br bn) (nI (bv_degn bs br bn 0))) lv 16)) (fun (_ : Unit) (T9 : State) => va_P G vwCl [(y, .inr (4, [.int 0, .int (nI pn), .ref yp, .int (nI bn), .ref yb, .ref yr, .ref yl])), (yp, .inl (cI, 12, .inl pf)), (yb, .inl (cI, 10, .inl bs)), (yr, .inl (cI, 10, .inl br)), (yl, .inl (cI, 16, .inl lv))] T9.heap) A) ([.ref y] : List Value).toArray s 0 0 A) (F0 m 124 ls []) := by
                intro fu9
                induction fu9 with
                | zero => intro k a hfu; exact absurd hfu (Nat.not_lt_zero _)
                | succ fu9 ih =>
                  intro k a hfu hk hi H locs hP hD hS ls hl
                  refine lv_iload (pc := 124) hx hb dX4_digest_124 (lv_at hl 0 rfl) ?_
                  refine lv_iload (pc := 126) hx hb dX4_digest_126 (lv_at hl 1 rfl) ?_
                  refine lv_icmp_ge (pc := 128) (tgt := 153) hx hb dX4_digest_128 (by decide) (fun c128_5 => ?_) (fun c128_5 => ?_)
                  · have hkn : 16 = k := by
                      by_cases h : k < 16
                      · exact absurd c128_5 (nI_ge h (by omega))
                      · omega
                    subst hkn
                    refine lv_lload_n (pc := 153) hx hb dX4_digest_153 rfl (lv_at hl 3 rfl) ?_
                    have hP9 : va_P G vwCl [(y, .inr (4, [.int 0, .int (nI pn), .ref yp, .int (nI bn), .ref yb, .ref yr, .ref yl])), (yp, .inl (cI, 12, .inl pf)), (yb, .inl (cI, 10, .inl bs)), (yr, .inl (cI, 10, .inl br)), (yl, .inl (cI, 16, .inl lv))] H := hP
                    exact W.lret (pc := 154) (v := a) hx hb hr (fun T8 hT8 hW8 => ⟨⟨a, (), rfl, hi, bv_hP hT8 hP9⟩, hS.F hT8⟩) hS.2.2 dX4_digest_154
                  · have hkn : k < 16 := by
                      by_cases h : k < 16
                      · exact h
                      · exact absurd (nI_le (by omega) (by omega)) c128_5
                    refine lv_aload_n (pc := 131) hx hb dX4_digest_131 rfl (lv_at hl 2 rfl) ?_
                    refine lv_iload (pc := 132) hx hb dX4_digest_132 (lv_at hl 0 rfl) ?_
                    refine bv_ial (pc := 134) hx hb hK hP 4 0 rfl rfl (by omega) (by omega) dX4_digest_134 ?_
                    refine lv_istore (pc := 135) (lv' := [(6, .int (lv k)), (5, .int (nI k)), (4, .int (nI 16)), (3, .ref yl), (1, .long a), (0, .ref y)]) hx hb dX4_digest_135 hl (by decide) rfl (fun ls hl => ?_)
                    refine lv_lload_n (pc := 137) hx hb dX4_digest_137 rfl (lv_at hl 4 rfl) ?_
                    refine lv_ldc2 (pc := 138) hx hb hown hw4 dX4_digest_138 ?_
                    refine lv_lmul (pc := 141) hx hb dX4_digest_141 ?_
                    refine lv_iload (pc := 142) hx hb dX4_digest_142 (lv_at hl 0 rfl) ?_
                    refine lv_i2l (pc := 144) (v := ((lv k).toInt64)) hx hb dX4_digest_144 rfl ?_
                    refine lv_ladd (pc := 145) hx hb dX4_digest_145 ?_
                    refine lv_lstore_n (pc := 146) (lv' := [(1, .long ((a * 31) + ((lv k).toInt64))), (6, .int (lv k)), (5, .int (nI k)), (4, .int (nI 16)), (3, .ref yl), (0, .ref y)]) hx hb dX4_digest_146 rfl hl (by decide) rfl (fun ls hl => ?_)
                    refine lv_iinc (pc := 147) (v := (nI (k + 1))) (lv' := [(5, .int (nI (k + 1))), (1, .long ((a * 31) + ((lv k).toInt64))), (6, .int (lv k)), (4, .int (nI 16)), (3, .ref yl), (0, .ref y)]) hx hb dX4_digest_147 hl (k := 2) rfl (nI_1 k) (by decide) rfl (fun ls hl => ?_)
                    refine lv_goto (pc := 150) (tgt := 124) hx hb dX4_digest_150 (by decide) ?_
                    exact ih (k + 1) ((a * 31) + ((lv k).toInt64)) (by omega) (by omega) (by rw [hi]; rfl) H _ hP hD hS ls (lv_sub hl [0, 3, 4, 1, 5] rfl)
              exact loop_124 (16 - 0 + 1) 0 ((a * 31) + ((nI (bv_degn bs br bn 0)).toInt64)) (Nat.lt_succ_self _) (Nat.zero_le _) (by rw [hi]; rfl) H _ hP hD hS ls (lv_sub hl [0, 1, 2, 3, 4] rfl)
            · have hkn : k < bn := by
                by_cases h : k < bn
                · exact h
                · exact absurd (nI_le (by omega) (by omega)) c64_2
              refine lv_lload_n (pc := 67) hx hb dX4_digest_67 rfl (lv_at hl 1 rfl) ?_
              refine lv_ldc2 (pc := 68) hx hb hown hw4 dX4_digest_68 ?_
              refine lv_lmul (pc := 71) hx hb dX4_digest_71 ?_
              refine lv_aload_n (pc := 72) hx hb dX4_digest_72 rfl (lv_at hl 2 rfl) ?_
              refine va_get (pc := 73) (D := G) (ci := 4) (v := .ref yb) (C := RX4) (T := TX4) (N := 7) hx hb hts hw1 hown hK hP 0 rfl rfl 4 (by decide) hw7 (fun _ h9 => h9) rfl dX4_digest_73 ?_
              refine lv_iload_n (pc := 76) hx hb dX4_digest_76 rfl (lv_at hl 0 rfl) ?_
              refine bv_ial (pc := 77) hx hb hK hP 2 0 rfl rfl (by omega) (by omega) dX4_digest_77 ?_
              refine lv_i2l (pc := 78) (v := ((bs k).toInt64)) hx hb dX4_digest_78 rfl ?_
              refine lv_ladd (pc := 79) hx hb dX4_digest_79 ?_
              refine lv_ldc2 (pc := 80) hx hb hown hw4 dX4_digest_80 ?_
              refine lv_lmul (pc := 83) hx hb dX4_digest_83 ?_
              refine lv_aload_n (pc := 84) hx hb dX4_digest_84 rfl (lv_at hl 2 rfl) ?_
              refine va_get (pc := 85) (D := G) (ci := 4) (v := .ref yr) (C := RX4) (T := TX4) (N := 7) hx hb hts hw1 hown hK hP 0 rfl rfl 5 (by decide) hw8 (fun _ h9 => h9) rfl dX4_digest_85 ?_
              refine lv_iload_n (pc := 88) hx hb dX4_digest_88 rfl (lv_at hl 0 rfl) ?_
              refine bv_ial (pc := 89) hx hb hK hP 3 0 rfl rfl (by omega) (by omega) dX4_digest_89 ?_
              refine lv_i2l (pc := 90) (v := ((br k).toInt64)) hx hb dX4_digest_90 rfl ?_
              refine lv_ladd (pc := 91) hx hb dX4_digest_91 ?_
              refine lv_lstore_n (pc := 92) (lv' := [(1, .long ((((a * 31) + ((bs k).toInt64)) * 31) + ((br k).toInt64))), (3, .int (nI k)), (0, .ref y)]) hx hb dX4_digest_92 rfl hl (by decide) rfl (fun ls hl => ?_)
              refine lv_iinc (pc := 93) (v := (nI (k + 1))) (lv' := [(3, .int (nI (k + 1))), (1, .long ((((a * 31) + ((bs k).toInt64)) * 31) + ((br k).toInt64))), (0, .ref y)]) hx hb dX4_digest_93 hl (k := 1) rfl (nI_1 k) (by decide) rfl (fun ls hl => ?_)
              refine lv_goto (pc := 96) (tgt := 59) hx hb dX4_digest_96 (by decide) ?_
              exact ih (k + 1) ((((a * 31) + ((bs k).toInt64)) * 31) + ((br k).toInt64)) (by omega) (by omega) (by rw [hi]; rfl) H _ hP hD hS ls (lv_sub hl [0, 1, 2] rfl)
        exact loop_59 (bn - 0 + 1) 0 ((a * 31) + ((nI bn).toInt64)) (Nat.lt_succ_self _) (Nat.zero_le _) (by rw [hi]; rfl) H _ hP hD hS ls (lv_sub hl [0, 1, 2] rfl)
      · have hkn : k < pn := by
          by_cases h : k < pn
          · exact h
          · exact absurd (nI_le (by omega) (by omega)) c22_1
        refine lv_lload_n (pc := 25) hx hb dX4_digest_25 rfl (lv_at hl 1 rfl) ?_
        refine lv_ldc2 (pc := 26) hx hb hown hw4 dX4_digest_26 ?_
        refine lv_lmul (pc := 29) hx hb dX4_digest_29 ?_
        refine lv_aload_n (pc := 30) hx hb dX4_digest_30 rfl (lv_at hl 2 rfl) ?_
        refine va_get (pc := 31) (D := G) (ci := 4) (v := .ref yp) (C := RX4) (T := TX4) (N := 7) hx hb hts hw1 hown hK hP 0 rfl rfl 2 (by decide) hw9 (fun _ h9 => h9) rfl dX4_digest_31 ?_
        refine lv_iload_n (pc := 34) hx hb dX4_digest_34 rfl (lv_at hl 0 rfl) ?_
        refine bv_ial (pc := 35) hx hb hK hP 1 0 rfl rfl (by omega) (by omega) dX4_digest_35 ?_
        refine lv_i2l (pc := 36) (v := ((pf k).toInt64)) hx hb dX4_digest_36 rfl ?_
        refine lv_ladd (pc := 37) hx hb dX4_digest_37 ?_
        refine lv_lstore_n (pc := 38) (lv' := [(1, .long ((a * 31) + ((pf k).toInt64))), (3, .int (nI k)), (0, .ref y)]) hx hb dX4_digest_38 rfl hl (by decide) rfl (fun ls hl => ?_)
        refine lv_iinc (pc := 39) (v := (nI (k + 1))) (lv' := [(3, .int (nI (k + 1))), (1, .long ((a * 31) + ((pf k).toInt64))), (0, .ref y)]) hx hb dX4_digest_39 hl (k := 1) rfl (nI_1 k) (by decide) rfl (fun ls hl => ?_)
        refine lv_goto (pc := 42) (tgt := 17) hx hb dX4_digest_42 (by decide) ?_
        exact ih (k + 1) ((a * 31) + ((pf k).toInt64)) (by omega) (by omega) (by rw [hi]; rfl) H _ hP hD hS ls (lv_sub hl [0, 1, 2] rfl)
  exact loop_17 (pn - 0 + 1) 0 (5921 + ((nI pn).toInt64)) (Nat.lt_succ_self _) (Nat.zero_le _) (by unfold bv_pdig bv_dstep; rw [show (191 : Int64) * 31 = 5921 from by decide]) H _ hP hD hS ls (lv_sub hl [0, 1, 2] rfl)
set_option maxHeartbeats 4000000 in
set_option maxRecDepth 100000 in
theorem m_X4_cut (l : Launch) (G : va_G) (cI : ClassId) (sz : Nat) (y yp yb yr yl pn bn : Nat) (th : Int32) (pf bs br lv : Nat → Int32) (hp : pn ≤ 12) (hn : bn ≤ 10) : Met l yX4_cut wsX4_cut ({ frames := 5, cells := 0, slots := 0, locals := 112 }) (bv_P [.ref y] G cI (fun H => H.size = sz ∧ va_P G vwCl [(y, .inr (4, [.int th, .int (nI pn), .ref yp, .int (nI bn), .ref yb, .ref yr, .ref yl])), (yp, .inl (cI, 12, .inl pf)), (yb, .inl (cI, 10, .inl bs)), (yr, .inl (cI, 10, .inl br)), (yl, .inl (cI, 16, .inl lv))] H ∧ va_D (fun _ => True) [(y, .inr (4, [.int th, .int (nI pn), .ref yp, .int (nI bn), .ref yb, .ref yr, .ref yl])), (yp, .inl (cI, 12, .inl pf)), (yb, .inl (cI, 10, .inl bs)), (yr, .inl (cI, 10, .inl br)), (yl, .inl (cI, 16, .inl lv))])) (va_Qi (fun (r9 : Int32) (_ : Unit) => r9 = (bv_if (if ¬ (1 ≤ pn) then 1 else 0) (bv_cut (bv_ik bs bn (pf (pn - 1))) (bv_lr br bn) (2 ^ bn)) 0)) (fun (_ : Unit) (T9 : State) => va_P G vwCl [(y, .inr (4, [.int (nI (if ¬ (1 ≤ pn) then 1 else 0)), .int (nI pn), .ref yp, .int (nI bn), .ref yb, .ref yr, .ref yl])), (yp, .inl (cI, 12, .inl pf)), (yb, .inl (cI, 10, .inl bs)), (yr, .inl (cI, 10, .inl br)), (yl, .inl (cI, 16, .inl lv))] T9.heap) (va_A [(y, .inr (4, [.int th, .int (nI pn), .ref yp, .int (nI bn), .ref yb, .ref yr, .ref yl])), (yp, .inl (cI, 12, .inl pf)), (yb, .inl (cI, 10, .inl bs)), (yr, .inl (cI, 10, .inl br)), (yl, .inl (cI, 16, .inl lv))] sz)) 0 0 (va_A [(y, .inr (4, [.int th, .int (nI pn), .ref yp, .int (nI bn), .ref yb, .ref yr, .ref yl])), (yp, .inl (cI, 12, .inl pf)), (yb, .inl (cI, 10, .inl bs)), (yr, .inl (cI, 10, .inl br)), (yl, .inl (cI, 16, .inl lv))] sz) := by
  refine Met.ofW (cc := cX4_cut) (maxL := 5) (ret := (some .int)) (by decide) rfl ?_
  intro p e s m args below meth c s₁ B hml hv
  obtain ⟨rfl, ⟨hsz, hP, hD0⟩, hE⟩ := hv
  have hx := B.exec
  have hb := B.bytes
  have hr := B.returns
  have hts := atoms_spec (ws := wsX4_cut) B.pre
  have hown : s.vm.findClass RX4 = some m.cls := findClass_of_methodNamed B.named
  have hlocks := B.notSynchronized
  have hK := hE.1
  have hw0 := hts (.fieldLink RX4 33 "BeliefReviserModel" "high" "I") (List.mem_of_getElem? (i := 1) rfl)
  have hw1 : ∀ w ∈ u_ws RX4 TX4 7, w ∈ wsX4_cut := by decide +kernel
  have hw2 := hts (.fieldLink RX4 22 "BeliefReviserModel" "thrown" "I") (List.mem_of_getElem? (i := 2) rfl)
  have hw3 := hts (.fieldLink RX4 26 "BeliefReviserModel" "size" "I") (List.mem_of_getElem? (i := 3) rfl)
  have hw4 := hts (.static yX4_has) (List.mem_of_getElem? (i := 34) rfl)
  have hw5 := hts (.fieldLink RX4 16 "BeliefReviserModel" "ranks" "[I") (List.mem_of_getElem? (i := 4) rfl)
  have hw6 := hts (.methodLink RX4 89 Lib.Math.min.name) (List.mem_of_getElem? (i := 5) rfl)
  have hw7 := hts (.static Lib.Math.min.name) (List.mem_of_getElem? (i := 6) rfl)
  have hw8 := hts (.initialized "java/lang/Math") (List.mem_of_getElem? (i := 7) rfl)
  have hw9 := hts (.code Lib.Math.min.name Lib.Math.min.code 2 (some .int)) (List.mem_of_getElem? (i := 8) rfl)
  subst hsz
  have hD := hD0.self (sz := s.heap.size)
  generalize hAe : va_A [(y, .inr (4, [.int th, .int (nI pn), .ref yp, .int (nI bn), .ref yb, .ref yr, .ref yl])), (yp, .inl (cI, 12, .inl pf)), (yb, .inl (cI, 10, .inl bs)), (yr, .inl (cI, 10, .inl br)), (yl, .inl (cI, 16, .inl lv))] s.heap.size = A at hD ⊢
  have hA : ∀ q : Nat, s.heap.size ≤ q → A q := fun q h => by rw [← hAe]; exact Or.inr h
  have hS : va_S A s.heap s.heap [] := va_S.rf
  have hP : va_P G vwCl [(y, .inr (4, [.int th, .int (nI pn), .ref yp, .int (nI bn), .ref yb, .ref yr, .ref yl])), (yp, .inl (cI, 12, .inl pf)), (yb, .inl (cI, 10, .inl bs)), (yr, .inl (cI, 10, .inl br)), (yl, .inl (cI, 16, .inl lv))] s.heap := hP
  have hl := lv_entry ([.ref y]) (n := 5) (Nat.le_of_ble_eq_true rfl)
  rw [lg_entry_eq]
  generalize (lg_sl ([.ref y]) ++ List.replicate (5 - (lg_sl ([.ref y])).length) Slot.unset).toArray = ls at hl ⊢
  have hl : lv_has ls 5 [(0, .ref y)] := hl
  have hp10 := bv_p10 hn
  refine lv_aload_n (pc := 0) hx hb dX4_cut_0 rfl (lv_at hl 0 rfl) ?_
  refine lv_aload_n (pc := 1) hx hb dX4_cut_1 rfl (lv_at hl 0 rfl) ?_
  refine va_get (pc := 2) (D := G) (ci := 4) (v := .int (nI pn)) (C := RX4) (T := TX4) (N := 7) hx hb hts hw1 hown hK hP 0 rfl rfl 1 (by decide) hw0 (fun _ h9 => h9) rfl dX4_cut_2 ?_
  refine lv_if_ne (pc := 5) (tgt := 12) hx hb dX4_cut_5 (by decide) (fun c5_1 => ?_) (fun c5_1 => ?_)
  · have hck0 : 1 ≤ pn := by
      by_cases h : pn = 0
      · exact absurd (by rw [h]; rfl) c5_1
      · omega
    refine lv_iconst (pc := 12) (v := 0) hx hb dX4_cut_12 (by decide) ?_
    refine va_put (pc := 13) (D := G) (ci := 4) (v := .int 0) (ty := .int) (C := RX4) (T := TX4) (N := 7) hx hb hts hw1 tyX4 tyX4_ok nmX4 hown hK hP hD hS 0 rfl rfl 0 (by decide) hw2 (fun _ h9 => h9) rfl (by decide +kernel) rfl rfl (Nat.le_of_ble_eq_true rfl) dX4_cut_13 (fun H locs hP hD hS => ?_)
    have hP : va_P G vwCl [(y, .inr (4, [.int 0, .int (nI pn), .ref yp, .int (nI bn), .ref yb, .ref yr, .ref yl])), (yp, .inl (cI, 12, .inl pf)), (yb, .inl (cI, 10, .inl bs)), (yr, .inl (cI, 10, .inl br)), (yl, .inl (cI, 16, .inl lv))] H := hP
    have hD : va_D A [(y, .inr (4, [.int 0, .int (nI pn), .ref yp, .int (nI bn), .ref yb, .ref yr, .ref yl])), (yp, .inl (cI, 12, .inl pf)), (yb, .inl (cI, 10, .inl bs)), (yr, .inl (cI, 10, .inl br)), (yl, .inl (cI, 16, .inl lv))] := hD
    refine lv_iconst (pc := 16) (v := 0) hx hb dX4_cut_16 (by decide) ?_
    refine lv_istore_n (pc := 17) (lv' := [(1, .int 0), (0, .ref y)]) hx hb dX4_cut_17 rfl hl (by decide) rfl (fun ls hl => ?_)
    refine lv_iconst (pc := 18) (v := 0) hx hb dX4_cut_18 (by decide) ?_
    refine lv_istore_n (pc := 19) (lv' := [(2, .int 0), (1, .int 0), (0, .ref y)]) hx hb dX4_cut_19 rfl hl (by decide) rfl (fun ls hl => ?_)
    have loop_20 : ∀ (fu9 : Nat) (t : Nat) (a : Int32), 2 ^ bn - t < fu9 → (t ≤ 2 ^ bn) → (a = bv_cut (bv_ik bs bn (pf (pn - 1))) (bv_lr br bn) t) → ∀ (H : Heap) (locs : List Loc), va_P G vwCl [(y, .inr (4, [.int 0, .int (nI pn), .ref yp, .int (nI bn), .ref yb, .ref yr, .ref yl])), (yp, .inl (cI, 12, .inl pf)), (yb, .inl (cI, 10, .inl bs)), (yr, .inl (cI, 10, .inl br)), (yl, .inl (cI, 16, .inl lv))] H → va_D A [(y, .inr (4, [.int 0, .int (nI pn), .ref yp, .int (nI bn), .ref yb, .ref yr, .ref yl])), (yp, .inl (cI, 12, .inl pf)), (yb, .inl (cI, 10, .inl bs)), (yr, .inl (cI, 10, .inl br)), (yl, .inl (cI, 16, .inl lv))] → va_S A s.heap H locs → ∀ (ls : Array Slot), lv_has ls 5 [(2, .int (nI t)), (1, .int a), (0, .ref y)] → W p l e (headSpec wsX4_cut ({ frames := 5, cells := 0, slots := 0, locals := 112 })).room s m ([.ref y] : List Value).toArray below meth c H locs 0 0 (MQ below (va_Qi (fun (r9 : Int32) (_ : Unit) => r9 = (bv_if (if ¬ (1 ≤ pn) then 1 else 0) (bv_cut (bv_ik bs bn (pf (pn - 1))) (bv_lr br bn) (2 ^ bn)) 0)) (fun (_ : Unit) (T9 : State) => va_P G vwCl [(y, .inr (4, [.int (nI (if ¬ (1 ≤ pn) then 1 else 0)), .int (nI pn), .ref yp, .int (nI bn), .ref yb, .ref yr, .ref yl])), (yp, .inl (cI, 12, .inl pf)), (yb, .inl (cI, 10, .inl bs)), (yr, .inl (cI, 10, .inl br)), (yl, .inl (cI, 16, .inl lv))] T9.heap) A) ([.ref y] : List Value).toArray s 0 0 A) (F0 m 20 ls []) := by
      intro fu9
      induction fu9 with
      | zero => intro t a hfu; exact absurd hfu (Nat.not_lt_zero _)
      | succ fu9 ih =>
        intro t a hfu htt hi H locs hP hD hS ls hl
        have ih_20 := ih
        refine lv_iload_n (pc := 20) hx hb dX4_cut_20 rfl (lv_at hl 0 rfl) ?_
        refine lv_iconst (pc := 21) (v := 1) hx hb dX4_cut_21 (by decide) ?_
        refine lv_aload_n (pc := 22) hx hb dX4_cut_22 rfl (lv_at hl 2 rfl) ?_
        refine va_get (pc := 23) (D := G) (ci := 4) (v := .int (nI bn)) (C := RX4) (T := TX4) (N := 7) hx hb hts hw1 hown hK hP 0 rfl rfl 3 (by decide) hw3 (fun _ h9 => h9) rfl dX4_cut_23 ?_
        refine lv_ishl (pc := 26) hx hb dX4_cut_26 ?_
        refine lv_icmp_ge (pc := 27) (tgt := 142) hx hb dX4_cut_27 (by decide) (fun c27_2 => ?_) (fun c27_2 => ?_)
        · rw [bv_shl hn] at c27_2
          have hkt : 2 ^ bn = t := by
            by_cases h : t < 2 ^ bn
            · exact absurd c27_2 (nI_ge h (by omega))
            · omega
          subst hkt
          refine lv_iload_n (pc := 142) hx hb dX4_cut_142 rfl (lv_at hl 1 rfl) ?_
          have hP9 : va_P G vwCl [(y, .inr (4, [.int (nI (if ¬ (1 ≤ pn) then 1 else 0)), .int (nI pn), .ref yp, .int (nI bn), .ref yb, .ref yr, .ref yl])), (yp, .inl (cI, 12, .inl pf)), (yb, .inl (cI, 10, .inl bs)), (yr, .inl (cI, 10, .inl br)), (yl, .inl (cI, 16, .inl lv))] H := by rw [if_neg (not_not_intro hck0)]; exact hP
          exact W.iret (pc := 143) (v := a) hx hb hr (fun T8 hT8 hW8 => ⟨⟨a, (), rfl, (by rw [if_neg (not_not_intro hck0)]; exact hi), bv_hP hT8 hP9⟩, hS.F hT8⟩) hS.2.2 dX4_cut_143
        · rw [bv_shl hn] at c27_2
          have hkt : t < 2 ^ bn := by
            by_cases h : t < 2 ^ bn
            · exact h
            · exact absurd (nI_le (by omega) (by omega)) c27_2
          refine lv_aload_n (pc := 30) hx hb dX4_cut_30 rfl (lv_at hl 2 rfl) ?_
          refine va_get (pc := 31) (D := G) (ci := 4) (v := .int 0) (C := RX4) (T := TX4) (N := 7) hx hb hts hw1 hown hK hP 0 rfl rfl 0 (by decide) hw2 (fun _ h9 => h9) rfl dX4_cut_31 ?_
          refine lv_if_ne (pc := 34) (tgt := 142) hx hb dX4_cut_34 (by decide) (fun c34_3 => ?_) (fun c34_3 => ?_)
          · exact absurd rfl c34_3
          · refine lv_aload_n (pc := 37) hx hb dX4_cut_37 rfl (lv_at hl 2 rfl) ?_
            refine lv_iconst (pc := 38) (v := 1) hx hb dX4_cut_38 (by decide) ?_
            refine lv_iload_n (pc := 39) hx hb dX4_cut_39 rfl (lv_at hl 0 rfl) ?_
            have hPc := hP.sub (ws' := [(y, .inr (4, [.int 0, .int (nI pn), .ref yp, .int (nI bn), .ref yb, .ref yr, .ref yl])), (yp, .inl (cI, 12, .inl pf)), (yb, .inl (cI, 10, .inl bs)), (yr, .inl (cI, 10, .inl br)), (yl, .inl (cI, 16, .inl lv))]) [0, 1, 2, 3, 4] rfl
            refine bv_cSi (pc := 40) (E' := (bv_b (bv_is true bs bn (pf (pn - 1)) t))) (va_runV (As := [.int 1, .int (nI t)]) (rest := []) ⟨hx, hb, hml, hown, hts⟩ (m_X4_is l G cI y yp yb yr yl pn bn 0 pf bs br lv true t hp hck0 hn hkt) (cwV 2 hts gX4_cut_X4_is rfl rfl rfl (by decide +kernel) ⟨Nat.le_of_ble_eq_true rfl, Nat.le_of_ble_eq_true rfl⟩) (bv_pV hE hPc (va_recv hK hP (ci := 4) (q0 := 0) rfl rfl)) rfl rfl hl.1 rfl (lv_room (Nat.le_of_ble_eq_true rfl)) dX4_cut_40 ⟨Nat.le_of_ble_eq_true rfl, Nat.le_of_ble_eq_true rfl⟩) rfl ?_
            refine lv_if_ne (pc := 43) (tgt := 49) hx hb dX4_cut_43 (by decide) (fun c43_6 => ?_) (fun c43_6 => ?_)
            · have h2 : bv_ik bs bn (pf (pn - 1)) t = true := bv_b1.mp c43_6
              refine lv_bipush (pc := 49) (v := 9) hx hb dX4_cut_49 (by decide) ?_
              refine lv_istore_n (pc := 51) (lv' := [(3, .int 9), (2, .int (nI t)), (1, .int a), (0, .ref y)]) hx hb dX4_cut_51 rfl hl (by decide) rfl (fun ls hl => ?_)
              refine lv_iconst (pc := 52) (v := 0) hx hb dX4_cut_52 (by decide) ?_
              refine lv_istore (pc := 53) (lv' := [(4, .int 0), (3, .int 9), (2, .int (nI t)), (1, .int a), (0, .ref y)]) hx hb dX4_cut_53 hl (by decide) rfl (fun ls hl => ?_)
              have loop_55 : ∀ (fu9 : Nat) (k : Nat) (x1 : Int32), bn - k < fu9 → (k ≤ bn) → (x1 = bv_lst br t k) → ∀ (H : Heap) (locs : List Loc), va_P G vwCl [(y, .inr (4, [.int 0, .int (nI pn), .ref yp, .int (nI bn), .ref yb, .ref yr, .ref yl])), (yp, .inl (cI, 12, .inl pf)), (yb, .inl (cI, 10, .inl bs)), (yr, .inl (cI, 10, .inl br)), (yl, .inl (cI, 16, .inl lv))] H → va_D A [(y, .inr (4, [.int 0, .int (nI pn), .ref yp, .int (nI bn), .ref yb, .ref yr, .ref yl])), (yp, .inl (cI, 12, .inl pf)), (yb, .inl (cI, 10, .inl bs)), (yr, .inl (cI, 10, .inl br)), (yl, .inl (cI, 16, .inl lv))] → va_S A s.heap H locs → ∀ (ls : Array Slot), lv_has ls 5 [(4, .int (nI k)), (3, .int x1), (2, .int (nI t)), (1, .int a), (0, .ref y)] → W p l e (headSpec wsX4_cut ({ frames := 5, cells := 0, slots := 0, locals := 112 })).room s m ([.ref y] : List Value).toArray below meth c H locs 0 0 (MQ below (va_Qi (fun (r9 : Int32) (_ : Unit) => r9 = (bv_if (if ¬ (1 ≤ pn) then 1 else 0) (bv_cut (bv_ik bs bn (pf (pn - 1))) (bv_lr br bn) (2 ^ bn)) 0)) (fun (_ : Unit) (T9 : State) => va_P G vwCl [(y, .inr (4, [.int (nI (if ¬ (1 ≤ pn) then 1 else 0)), .int (nI pn), .ref yp, .int (nI bn), .ref yb, .ref yr, .ref yl])), (yp, .inl (cI, 12, .inl pf)), (yb, .inl (cI, 10, .inl bs)), (yr, .inl (cI, 10, .inl br)), (yl, .inl (cI, 16, .inl lv))] T9.heap) A) ([.ref y] : List Value).toArray s 0 0 A) (F0 m 55 ls []) := by
                intro fu9
                induction fu9 with
                | zero => intro k x1 hfu; exact absurd hfu (Nat.not_lt_zero _)
                | succ fu9 ih =>
                  intro k x1 hfu hk hj1 H locs hP hD hS ls hl
                  refine lv_iload (pc := 55) hx hb dX4_cut_55 (lv_at hl 0 rfl) ?_
                  refine lv_aload_n (pc := 57) hx hb dX4_cut_57 rfl (lv_at hl 4 rfl) ?_
                  refine va_get (pc := 58) (D := G) (ci := 4) (v := .int (nI bn)) (C := RX4) (T := TX4) (N := 7) hx hb hts hw1 hown hK hP 0 rfl rfl 3 (by decide) hw3 (fun _ h9 => h9) rfl dX4_cut_58 ?_
                  refine lv_icmp_ge (pc := 61) (tgt := 91) hx hb dX4_cut_61 (by decide) (fun c61_7 => ?_) (fun c61_7 => ?_)
                  · have hkn : bn = k := by
                      by_cases h : k < bn
                      · exact absurd c61_7 (nI_ge h (by omega))
                      · omega
                    subst hkn
                    refine lv_iconst (pc := 91) (v := 0) hx hb dX4_cut_91 (by decide) ?_
                    refine lv_istore (pc := 92) (lv' := [(4, .int 0), (3, .int x1), (2, .int (nI t)), (1, .int a), (0, .ref y)]) hx hb dX4_cut_92 hl (by decide) rfl (fun ls hl => ?_)
                    have loop_94 : ∀ (fu9 : Nat) (k : Nat) (a2 : Int32), bn - k < fu9 → (k ≤ bn) → (a2 = a ||| nI (bv_eqs br t x1 k)) → ∀ (H : Heap) (locs : List Loc), va_P G vwCl [(y, .inr (4, [.int 0, .int (nI pn), .ref yp, .int (nI bn), .ref yb, .ref yr, .ref yl])), (yp, .inl (cI, 12, .inl pf)), (yb, .inl (cI, 10, .inl bs)), (yr, .inl (cI, 10, .inl br)), (yl, .inl (cI, 16, .inl lv))] H → va_D A [(y, .inr (4, [.int 0, .int (nI pn), .ref yp, .int (nI bn), .ref yb, .ref yr, .ref yl])), (yp, .inl (cI, 12, .inl pf)), (yb, .inl (cI, 10, .inl bs)), (yr, .inl (cI, 10, .inl br)), (yl, .inl (cI, 16, .inl lv))] → va_S A s.heap H locs → ∀ (ls : Array Slot), lv_has ls 5 [(4, .int (nI k)), (3, .int x1), (2, .int (nI t)), (1, .int a2), (0, .ref y)] → W p l e (headSpec wsX4_cut ({ frames := 5, cells := 0, slots := 0, locals := 112 })).room s m ([.ref y] : List Value).toArray below meth c H locs 0 0 (MQ below (va_Qi (fun (r9 : Int32) (_ : Unit) => r9 = (bv_if (if ¬ (1 ≤ pn) then 1 else 0) (bv_cut (bv_ik bs bn (pf (pn - 1))) (bv_lr br bn) (2 ^ bn)) 0)) (fun (_ : Unit) (T9 : State) => va_P G vwCl [(y, .inr (4, [.int (nI (if ¬ (1 ≤ pn) then 1 else 0)), .int (nI pn), .ref yp, .int (nI bn), .ref yb, .ref yr, .ref yl])), (yp, .inl (cI, 12, .inl pf)), (yb, .inl (cI, 10, .inl bs)), (yr, .inl (cI, 10, .inl br)), (yl, .inl (cI, 16, .inl lv))] T9.heap) A) ([.ref y] : List Value).toArray s 0 0 A) (F0 m 94 ls []) := by
                      intro fu9
                      induction fu9 with
                      | zero => intro k a2 hfu; exact absurd hfu (Nat.not_lt_zero _)
                      | succ fu9 ih =>
                        intro k a2 hfu hk hj2 H locs hP hD hS ls hl
                        refine lv_iload (pc := 94) hx hb dX4_cut_94 (lv_at hl 0 rfl) ?_
                        refine lv_aload_n (pc := 96) hx hb dX4_cut_96 rfl (lv_at hl 4 rfl) ?_
                        refine va_get (pc := 97) (D := G) (ci := 4) (v := .int (nI bn)) (C := RX4) (T := TX4) (N := 7) hx hb hts hw1 hown hK hP 0 rfl rfl 3 (by decide) hw3 (fun _ h9 => h9) rfl dX4_cut_97 ?_
                        refine lv_icmp_ge (pc := 100) (tgt := 136) hx hb dX4_cut_100 (by decide) (fun c100_8 => ?_) (fun c100_8 => ?_)
                        · have hkn : bn = k := by
                            by_cases h : k < bn
                            · exact absurd c100_8 (nI_ge h (by omega))
                            · omega
                          subst hkn
                          refine lv_iinc (pc := 136) (v := (nI (t + 1))) (lv' := [(2, .int (nI (t + 1))), (4, .int (nI bn)), (3, .int x1), (1, .int a2), (0, .ref y)]) hx hb dX4_cut_136 hl (k := 2) rfl (nI_1 t) (by decide) rfl (fun ls hl => ?_)
                          refine lv_goto (pc := 139) (tgt := 20) hx hb dX4_cut_139 (by decide) ?_
                          exact ih_20 (t + 1) a2 (by omega) (by omega) (by rw [bv_cut, if_pos h2, hj2, hi, hj1, bv_eqs_lr hn hkt]) H _ hP hD hS ls (lv_sub hl [0, 3, 4] rfl)
                        · have hkn : k < bn := by
                            by_cases h : k < bn
                            · exact h
                            · exact absurd (nI_le (by omega) (by omega)) c100_8
                          refine lv_iload_n (pc := 103) hx hb dX4_cut_103 rfl (lv_at hl 2 rfl) ?_
                          refine lv_iload (pc := 104) hx hb dX4_cut_104 (lv_at hl 0 rfl) ?_
                          have hPc := hP.sub (ws' := []) [] rfl
                          refine bv_cSi (pc := 106) (E' := (bv_b (t.testBit k))) (va_runS (As := [.int (nI t), .int (nI k)]) (rest := []) ⟨hx, hb, hml, hown, hts⟩ (m_X4_has l G cI (nI t) (nI k) ) (va_cwS 2 hts gX4_cut_X4_has rfl rfl rfl (by decide +kernel) ⟨Nat.le_of_ble_eq_true rfl, Nat.le_of_ble_eq_true rfl⟩) (bv_pS hE hPc) rfl rfl hl.1 rfl (lv_room (Nat.le_of_ble_eq_true rfl)) dX4_cut_106 ⟨Nat.le_of_ble_eq_true rfl, Nat.le_of_ble_eq_true rfl⟩) (by rw [bv_has_nI (by omega) (by omega)]) ?_
                          refine lv_if_eq (pc := 109) (tgt := 130) hx hb dX4_cut_109 (by decide) (fun c109_11 => ?_) (fun c109_11 => ?_)
                          · have h3 := bv_b0.mp c109_11
                            refine lv_iinc (pc := 130) (v := (nI (k + 1))) (lv' := [(4, .int (nI (k + 1))), (3, .int x1), (2, .int (nI t)), (1, .int a2), (0, .ref y)]) hx hb dX4_cut_130 hl (k := 0) rfl (nI_1 k) (by decide) rfl (fun ls hl => ?_)
                            refine lv_goto (pc := 133) (tgt := 94) hx hb dX4_cut_133 (by decide) ?_
                            exact ih (k + 1) a2 (by omega) (by omega) (by rw [bv_eqs, if_neg (fun z => by rw [h3] at z; exact absurd z.1 (by decide))]; exact hj2) H _ hP hD hS ls (lv_sub hl [0, 1, 2, 3, 4] rfl)
                          · have h3 := bv_b1.mp c109_11
                            refine lv_aload_n (pc := 112) hx hb dX4_cut_112 rfl (lv_at hl 4 rfl) ?_
                            refine va_get (pc := 113) (D := G) (ci := 4) (v := .ref yr) (C := RX4) (T := TX4) (N := 7) hx hb hts hw1 hown hK hP 0 rfl rfl 5 (by decide) hw5 (fun _ h9 => h9) rfl dX4_cut_113 ?_
                            refine lv_iload (pc := 116) hx hb dX4_cut_116 (lv_at hl 0 rfl) ?_
                            refine bv_ial (pc := 118) hx hb hK hP 3 0 rfl rfl (by omega) (by omega) dX4_cut_118 ?_
                            refine lv_iload_n (pc := 119) hx hb dX4_cut_119 rfl (lv_at hl 1 rfl) ?_
                            refine lv_icmp_ne (pc := 120) (tgt := 130) hx hb dX4_cut_120 (by decide) (fun c120_12 => ?_) (fun c120_12 => ?_)
                            · have h4 := c120_12
                              refine lv_iinc (pc := 130) (v := (nI (k + 1))) (lv' := [(4, .int (nI (k + 1))), (3, .int x1), (2, .int (nI t)), (1, .int a2), (0, .ref y)]) hx hb dX4_cut_130 hl (k := 0) rfl (nI_1 k) (by decide) rfl (fun ls hl => ?_)
                              refine lv_goto (pc := 133) (tgt := 94) hx hb dX4_cut_133 (by decide) ?_
                              exact ih (k + 1) a2 (by omega) (by omega) (by rw [bv_eqs, if_neg (fun z => h4 z.2)]; exact hj2) H _ hP hD hS ls (lv_sub hl [0, 1, 2, 3, 4] rfl)
                            · have h4 := c120_12
                              refine lv_iload_n (pc := 123) hx hb dX4_cut_123 rfl (lv_at hl 3 rfl) ?_
                              refine lv_iconst (pc := 124) (v := 1) hx hb dX4_cut_124 (by decide) ?_
                              refine lv_iload (pc := 125) hx hb dX4_cut_125 (lv_at hl 0 rfl) ?_
                              refine lv_ishl (pc := 127) hx hb dX4_cut_127 ?_
                              refine lv_ior (pc := 128) hx hb dX4_cut_128 ?_
                              refine lv_istore_n (pc := 129) (lv' := [(1, .int (a2 ||| (1 <<< ((nI k) &&& 31)))), (4, .int (nI k)), (3, .int x1), (2, .int (nI t)), (0, .ref y)]) hx hb dX4_cut_129 rfl hl (by decide) rfl (fun ls hl => ?_)
                              refine lv_iinc (pc := 130) (v := (nI (k + 1))) (lv' := [(4, .int (nI (k + 1))), (1, .int (a2 ||| (1 <<< ((nI k) &&& 31)))), (3, .int x1), (2, .int (nI t)), (0, .ref y)]) hx hb dX4_cut_130 hl (k := 1) rfl (nI_1 k) (by decide) rfl (fun ls hl => ?_)
                              refine lv_goto (pc := 133) (tgt := 94) hx hb dX4_cut_133 (by decide) ?_
                              exact ih (k + 1) (a2 ||| (1 <<< ((nI k) &&& 31))) (by omega) (by omega) (by rw [bv_eqs, if_pos ⟨h3, h4⟩, hj2, Int32.or_assoc]; congr 1; exact bv_obit (by omega)) H _ hP hD hS ls (lv_sub hl [0, 2, 3, 1, 4] rfl)
                    exact loop_94 (bn - 0 + 1) 0 a (Nat.lt_succ_self _) (Nat.zero_le _) (by rw [bv_eqs]; exact (Int32.or_zero).symm) H _ hP hD hS ls (lv_sub hl [0, 1, 2, 3, 4] rfl)
                  · have hkn : k < bn := by
                      by_cases h : k < bn
                      · exact h
                      · exact absurd (nI_le (by omega) (by omega)) c61_7
                    refine lv_iload_n (pc := 64) hx hb dX4_cut_64 rfl (lv_at hl 2 rfl) ?_
                    refine lv_iload (pc := 65) hx hb dX4_cut_65 (lv_at hl 0 rfl) ?_
                    have hPc := hP.sub (ws' := []) [] rfl
                    refine bv_cSi (pc := 67) (E' := (bv_b (t.testBit k))) (va_runS (As := [.int (nI t), .int (nI k)]) (rest := []) ⟨hx, hb, hml, hown, hts⟩ (m_X4_has l G cI (nI t) (nI k) ) (va_cwS 2 hts gX4_cut_X4_has rfl rfl rfl (by decide +kernel) ⟨Nat.le_of_ble_eq_true rfl, Nat.le_of_ble_eq_true rfl⟩) (bv_pS hE hPc) rfl rfl hl.1 rfl (lv_room (Nat.le_of_ble_eq_true rfl)) dX4_cut_67 ⟨Nat.le_of_ble_eq_true rfl, Nat.le_of_ble_eq_true rfl⟩) (by rw [bv_has_nI (by omega) (by omega)]) ?_
                    refine lv_if_eq (pc := 70) (tgt := 85) hx hb dX4_cut_70 (by decide) (fun c70_15 => ?_) (fun c70_15 => ?_)
                    · have h3 := bv_b0.mp c70_15
                      refine lv_iinc (pc := 85) (v := (nI (k + 1))) (lv' := [(4, .int (nI (k + 1))), (3, .int x1), (2, .int (nI t)), (1, .int a), (0, .ref y)]) hx hb dX4_cut_85 hl (k := 0) rfl (nI_1 k) (by decide) rfl (fun ls hl => ?_)
                      refine lv_goto (pc := 88) (tgt := 55) hx hb dX4_cut_88 (by decide) ?_
                      exact ih (k + 1) x1 (by omega) (by omega) (by rw [bv_lst, h3]; exact hj1) H _ hP hD hS ls (lv_sub hl [0, 1, 2, 3, 4] rfl)
                    · have h3 := bv_b1.mp c70_15
                      refine lv_iload_n (pc := 73) hx hb dX4_cut_73 rfl (lv_at hl 1 rfl) ?_
                      refine lv_aload_n (pc := 74) hx hb dX4_cut_74 rfl (lv_at hl 4 rfl) ?_
                      refine va_get (pc := 75) (D := G) (ci := 4) (v := .ref yr) (C := RX4) (T := TX4) (N := 7) hx hb hts hw1 hown hK hP 0 rfl rfl 5 (by decide) hw5 (fun _ h9 => h9) rfl dX4_cut_75 ?_
                      refine lv_iload (pc := 78) hx hb dX4_cut_78 (lv_at hl 0 rfl) ?_
                      refine bv_ial (pc := 80) hx hb hK hP 3 0 rfl rfl (by omega) (by omega) dX4_cut_80 ?_
                      refine va_mmin (pc := 81) hx hb (hml.trans hl.1.symm) hown hw6 hw7 hw8 hw9 (Nat.le_of_ble_eq_true rfl) (Nat.le_of_ble_eq_true rfl) (Nat.le_of_ble_eq_true rfl) (Nat.le_of_ble_eq_true rfl) dX4_cut_81 ?_
                      rw [show (if (br k) < x1 then (br k) else x1) = (bv_min x1 (br k)) from rfl]
                      refine lv_istore_n (pc := 84) (lv' := [(3, .int (bv_min x1 (br k))), (4, .int (nI k)), (2, .int (nI t)), (1, .int a), (0, .ref y)]) hx hb dX4_cut_84 rfl hl (by decide) rfl (fun ls hl => ?_)
                      refine lv_iinc (pc := 85) (v := (nI (k + 1))) (lv' := [(4, .int (nI (k + 1))), (3, .int (bv_min x1 (br k))), (2, .int (nI t)), (1, .int a), (0, .ref y)]) hx hb dX4_cut_85 hl (k := 1) rfl (nI_1 k) (by decide) rfl (fun ls hl => ?_)
                      refine lv_goto (pc := 88) (tgt := 55) hx hb dX4_cut_88 (by decide) ?_
                      exact ih (k + 1) (bv_min x1 (br k)) (by omega) (by omega) (by rw [bv_lst, if_pos h3, hj1]) H _ hP hD hS ls (lv_sub hl [0, 1, 2, 3, 4] rfl)
              exact loop_55 (bn - 0 + 1) 0 9 (Nat.lt_succ_self _) (Nat.zero_le _) rfl H _ hP hD hS ls (lv_sub hl [0, 1, 2, 3, 4] rfl)
            · have h2 : bv_ik bs bn (pf (pn - 1)) t = false := bv_b0.mp c43_6
              refine lv_goto (pc := 46) (tgt := 136) hx hb dX4_cut_46 (by decide) ?_
              refine lv_iinc (pc := 136) (v := (nI (t + 1))) (lv' := [(2, .int (nI (t + 1))), (1, .int a), (0, .ref y)]) hx hb dX4_cut_136 hl (k := 0) rfl (nI_1 t) (by decide) rfl (fun ls hl => ?_)
              refine lv_goto (pc := 139) (tgt := 20) hx hb dX4_cut_139 (by decide) ?_
              exact ih_20 (t + 1) a (by omega) (by omega) (by rw [bv_cut, h2]; exact hi) H _ hP hD hS ls (lv_sub hl [0, 1, 2] rfl)
    exact loop_20 (2 ^ bn - 0 + 1) 0 0 (Nat.lt_succ_self _) (Nat.zero_le _) rfl H _ hP hD hS ls (lv_sub hl [0, 1, 2] rfl)
  · have hbad : ¬ 1 ≤ pn := by
      have h : pn = 0 := (bv_pn0 (by omega)).mp c5_1
      omega
    refine lv_iconst (pc := 8) (v := 1) hx hb dX4_cut_8 (by decide) ?_
    refine lv_goto (pc := 9) (tgt := 13) hx hb dX4_cut_9 (by decide) ?_
    refine va_put (pc := 13) (D := G) (ci := 4) (v := .int 1) (ty := .int) (C := RX4) (T := TX4) (N := 7) hx hb hts hw1 tyX4 tyX4_ok nmX4 hown hK hP hD hS 0 rfl rfl 0 (by decide) hw2 (fun _ h9 => h9) rfl (by decide +kernel) rfl rfl (Nat.le_of_ble_eq_true rfl) dX4_cut_13 (fun H locs hP hD hS => ?_)
    have hP : va_P G vwCl [(y, .inr (4, [.int 1, .int (nI pn), .ref yp, .int (nI bn), .ref yb, .ref yr, .ref yl])), (yp, .inl (cI, 12, .inl pf)), (yb, .inl (cI, 10, .inl bs)), (yr, .inl (cI, 10, .inl br)), (yl, .inl (cI, 16, .inl lv))] H := hP
    have hD : va_D A [(y, .inr (4, [.int 1, .int (nI pn), .ref yp, .int (nI bn), .ref yb, .ref yr, .ref yl])), (yp, .inl (cI, 12, .inl pf)), (yb, .inl (cI, 10, .inl bs)), (yr, .inl (cI, 10, .inl br)), (yl, .inl (cI, 16, .inl lv))] := hD
    refine lv_iconst (pc := 16) (v := 0) hx hb dX4_cut_16 (by decide) ?_
    refine lv_istore_n (pc := 17) (lv' := [(1, .int 0), (0, .ref y)]) hx hb dX4_cut_17 rfl hl (by decide) rfl (fun ls hl => ?_)
    refine lv_iconst (pc := 18) (v := 0) hx hb dX4_cut_18 (by decide) ?_
    refine lv_istore_n (pc := 19) (lv' := [(2, .int 0), (1, .int 0), (0, .ref y)]) hx hb dX4_cut_19 rfl hl (by decide) rfl (fun ls hl => ?_)
    refine lv_iload_n (pc := 20) hx hb dX4_cut_20 rfl (lv_at hl 0 rfl) ?_
    refine lv_iconst (pc := 21) (v := 1) hx hb dX4_cut_21 (by decide) ?_
    refine lv_aload_n (pc := 22) hx hb dX4_cut_22 rfl (lv_at hl 2 rfl) ?_
    refine va_get (pc := 23) (D := G) (ci := 4) (v := .int (nI bn)) (C := RX4) (T := TX4) (N := 7) hx hb hts hw1 hown hK hP 0 rfl rfl 3 (by decide) hw3 (fun _ h9 => h9) rfl dX4_cut_23 ?_
    refine lv_ishl (pc := 26) hx hb dX4_cut_26 ?_
    refine lv_icmp_ge (pc := 27) (tgt := 142) hx hb dX4_cut_27 (by decide) (fun c27_16 => ?_) (fun c27_16 => ?_)
    · refine lv_iload_n (pc := 142) hx hb dX4_cut_142 rfl (lv_at hl 1 rfl) ?_
      have hP9 : va_P G vwCl [(y, .inr (4, [.int (nI (if ¬ (1 ≤ pn) then 1 else 0)), .int (nI pn), .ref yp, .int (nI bn), .ref yb, .ref yr, .ref yl])), (yp, .inl (cI, 12, .inl pf)), (yb, .inl (cI, 10, .inl bs)), (yr, .inl (cI, 10, .inl br)), (yl, .inl (cI, 16, .inl lv))] H := by rw [if_pos hbad]; exact hP
      exact W.iret (pc := 143) (v := 0) hx hb hr (fun T8 hT8 hW8 => ⟨⟨0, (), rfl, (by rw [if_pos hbad]; rfl), bv_hP hT8 hP9⟩, hS.F hT8⟩) hS.2.2 dX4_cut_143
    · refine lv_aload_n (pc := 30) hx hb dX4_cut_30 rfl (lv_at hl 2 rfl) ?_
      refine va_get (pc := 31) (D := G) (ci := 4) (v := .int 1) (C := RX4) (T := TX4) (N := 7) hx hb hts hw1 hown hK hP 0 rfl rfl 0 (by decide) hw2 (fun _ h9 => h9) rfl dX4_cut_31 ?_
      refine lv_if_ne (pc := 34) (tgt := 142) hx hb dX4_cut_34 (by decide) (fun c34_17 => ?_) (fun c34_17 => ?_)
      · refine lv_iload_n (pc := 142) hx hb dX4_cut_142 rfl (lv_at hl 1 rfl) ?_
        have hP9 : va_P G vwCl [(y, .inr (4, [.int (nI (if ¬ (1 ≤ pn) then 1 else 0)), .int (nI pn), .ref yp, .int (nI bn), .ref yb, .ref yr, .ref yl])), (yp, .inl (cI, 12, .inl pf)), (yb, .inl (cI, 10, .inl bs)), (yr, .inl (cI, 10, .inl br)), (yl, .inl (cI, 16, .inl lv))] H := by rw [if_pos hbad]; exact hP
        exact W.iret (pc := 143) (v := 0) hx hb hr (fun T8 hT8 hW8 => ⟨⟨0, (), rfl, (by rw [if_pos hbad]; rfl), bv_hP hT8 hP9⟩, hS.F hT8⟩) hS.2.2 dX4_cut_143
      · exact absurd c34_17 (by decide)
