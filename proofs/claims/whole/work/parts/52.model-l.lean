/-! The strict order, as the reference makes it. -/
def bv_ordr (lv : Nat → Int32) (S : Int32) : Nat → Int32 := bv_put1 lv (fun w => nI (bv_cd (bv_key lv S) (bv_key lv S w) 16)) 16
theorem bv_strict_eq (lv ks : Nat → Int32) (S : Int32) : bv_strict lv ks S = bv_ordr lv S := by
  have hk : ∀ k, k < 16 → bv_keys lv ks S k = bv_key lv S k := by
    intro k hk
    unfold bv_keys bv_put1
    rw [if_pos hk]
  unfold bv_strict bv_byk bv_ordr
  funext j
  unfold bv_put1
  by_cases hj : j < 16
  · rw [if_pos hj, if_pos hj]
    show nI (bv_cd (bv_keys lv ks S) (bv_keys lv ks S j) 16) = nI (bv_cd (bv_key lv S) (bv_key lv S j) 16)
    rw [hk j hj, bv_cd_congr 16 hk]
  · rw [if_neg hj, if_neg hj]
theorem bv_keyN {lv : Nat → Int32} {S : Int32} (h6 : ∀ w, w < 16 → ∃ n, n ≤ 1000000 ∧ lv w = nI n) : ∃ g, g ≤ 1000000 ∧ ∀ w, w < 16 → ∃ n, n ≤ g ∧ lv w = nI n ∧ bv_key lv S w = if bv_has S (nI w) = true then nI n else nI (n + (g + 1)) := by
  obtain ⟨g, hg, e, hall⟩ := bv_gl_spec h6 16 (Nat.le_refl _)
  refine ⟨g, hg, fun w hw => ?_⟩
  obtain ⟨n, hn, en⟩ := h6 w hw
  refine ⟨n, hall w hw n hn en, en, ?_⟩
  unfold bv_key
  rw [e, en, nI_1, nI_add]
theorem bv_ord0 {lv f : Nat → Int32} {S T : Int32} {nx : Nat} (h6 : ∀ w, w < 16 → ∃ n, n ≤ 1000000 ∧ lv w = nI n) (hT : T &&& 65535 = T) (hsub : ∀ w, w < 16 → bv_has T (nI w) = true → bv_has S (nI w) = true) (hne : ¬ T = 0) (h : bv_ex (bv_key lv S) (fun w => bv_has S (nI w) = true ∧ bv_has T (nI w) = false) nx f) :
    bv_ex (bv_key lv S) (fun w => bv_has S (nI w) = true ∧ bv_has (T &&& (bv_mp lv T ^^^ (-1))) (nI w) = false) (nx + 1) (bv_st f (bv_mp lv T) (nI nx) 16) ∧ ∀ w, w < 16 → bv_has (T &&& (bv_mp lv T ^^^ (-1))) (nI w) = true → bv_has S (nI w) = true := by
  have hlv := bv_hl6 h6
  obtain ⟨-, -, hh⟩ := bv_left hlv hT hne
  obtain ⟨g, hg, hk⟩ := bv_keyN h6 (S := S)
  refine ⟨bv_ex_iff (fun w hw => ?_) (bv_take hlv hT hne h (fun w hw q z => by rw [q] at z; exact absurd z.2 (by decide)) (fun w hw q1 q2 v hv q3 => ?_) (fun v w hv hw q1 q2 => ?_) (fun w hw => rfl)), fun w hw q => ?_⟩
  · rw [hh w hw]
    cases z1 : bv_has T (nI w) <;> cases z2 : bv_has (bv_mp lv T) (nI w) <;> cases z3 : bv_has S (nI w) <;> simp_all
    · have := (bv_mp_has hw).mp z2
      rw [z1] at this; exact absurd this.1 (by decide)
  · obtain ⟨a, ha, ea, ka⟩ := hk v hv
    obtain ⟨b, hb, eb, kb⟩ := hk w hw
    have hS1 := hsub v hv q3
    have hS2 : ¬ bv_has S (nI w) = true := fun z => q1 ⟨z, by cases y : bv_has T (nI w) <;> simp_all⟩
    rw [ka, kb, if_pos hS1, if_neg hS2]
    exact nI_lt (by omega) (by omega)
  · obtain ⟨a, ha, ea, ka⟩ := hk v hv
    obtain ⟨b, hb, eb, kb⟩ := hk w hw
    rw [ka, kb, if_pos (hsub v hv q1), if_pos (hsub w hw q2), ea, eb]
    exact ⟨fun q => q, fun q => q, fun q => q⟩
  · rw [hh w hw, Bool.and_eq_true] at q
    exact hsub w hw q.1
theorem bv_ord1 {lv f : Nat → Int32} {S T : Int32} {nx : Nat} (h6 : ∀ w, w < 16 → ∃ n, n ≤ 1000000 ∧ lv w = nI n) (hT : T &&& 65535 = T) (hsub : ∀ w, w < 16 → bv_has T (nI w) = true → bv_has S (nI w) = false) (hne : ¬ T = 0) (h : bv_ex (bv_key lv S) (fun w => bv_has T (nI w) = false) nx f) :
    bv_ex (bv_key lv S) (fun w => bv_has (T &&& (bv_mp lv T ^^^ (-1))) (nI w) = false) (nx + 1) (bv_st f (bv_mp lv T) (nI nx) 16) ∧ ∀ w, w < 16 → bv_has (T &&& (bv_mp lv T ^^^ (-1))) (nI w) = true → bv_has S (nI w) = false := by
  have hlv := bv_hl6 h6
  obtain ⟨-, -, hh⟩ := bv_left hlv hT hne
  obtain ⟨g, hg, hk⟩ := bv_keyN h6 (S := S)
  refine ⟨bv_ex_iff (fun w hw => ?_) (bv_take hlv hT hne h (fun w hw q z => by rw [q] at z; exact absurd z (by decide)) (fun w hw q1 q2 v hv q3 => absurd (by cases y : bv_has T (nI w) <;> simp_all) q1) (fun v w hv hw q1 q2 => ?_) (fun w hw => rfl)), fun w hw q => ?_⟩
  · rw [hh w hw]
    cases z1 : bv_has T (nI w) <;> cases z2 : bv_has (bv_mp lv T) (nI w) <;> simp_all
  · obtain ⟨a, ha, ea, ka⟩ := hk v hv
    obtain ⟨b, hb, eb, kb⟩ := hk w hw
    have n1 : ¬ bv_has S (nI v) = true := by rw [hsub v hv q1]; decide
    have n2 : ¬ bv_has S (nI w) = true := by rw [hsub w hw q2]; decide
    rw [ka, kb, if_neg n1, if_neg n2, ea, eb]
    refine ⟨fun q => nI_le ?_ (by omega), fun q => ?_, fun q => ?_⟩
    · have := (nI_leI (by omega) (by omega)).mp q; omega
    · have := (nI_eq (by omega) (by omega)).mp q
      congr 1; omega
    · have := (nI_eq (by omega) (by omega)).mp q
      congr 1; omega
  · rw [hh w hw, Bool.and_eq_true] at q
    exact hsub w hw q.1
theorem bv_has_not {S : Int32} (hS : S &&& 65535 = S) {w : Nat} (hw : w < 16) : bv_has (bv_not S) (nI w) = !bv_has S (nI w) := by
  unfold bv_not
  rw [bv_has_less (by decide) hS hw, bv_all16 w hw, Bool.true_and]
theorem bv_ord_s {lv : Nat → Int32} {S : Int32} {f : Nat → Int32} {nx : Nat} (hS : S &&& 65535 = S) (h : bv_ex (bv_key lv S) (fun w => bv_has S (nI w) = true ∧ bv_has 0 (nI w) = false) nx f) : bv_ex (bv_key lv S) (fun w => bv_has (bv_not S) (nI w) = false) nx f := by
  refine bv_ex_iff (fun w hw => ?_) h
  rw [bv_has_not hS hw, bv_has0 w hw]
  cases bv_has S (nI w) <;> simp
theorem bv_ord_i {lv f : Nat → Int32} {S : Int32} : bv_ex (bv_key lv S) (fun w => bv_has S (nI w) = true ∧ bv_has S (nI w) = false) 0 f := bv_ex_0 (fun w hw q => by rw [q.1] at q; exact absurd q.2 (by decide))
theorem bv_ord_e {lv f : Nat → Int32} {S : Int32} {nx : Nat} (h : bv_ex (bv_key lv S) (fun w => bv_has 0 (nI w) = false) nx f) : va_cpy f lv (0 : Int32).toNatClampNeg (0 : Int32).toNatClampNeg (16 : Int32).toNatClampNeg = bv_ordr lv S := by
  funext j
  show (if 0 ≤ j ∧ j < 0 + 16 then f (0 + (j - 0)) else lv j) = _
  unfold bv_ordr bv_put1
  by_cases hj : j < 16
  · rw [if_pos ⟨Nat.zero_le _, by omega⟩, if_pos hj, Nat.sub_zero, Nat.zero_add]
    exact h.1 j hj (bv_has0 j hj)
  · rw [if_neg (fun q => hj (by omega)), if_neg hj]

set_option maxHeartbeats 4000000 in
set_option maxRecDepth 100000 in
theorem m_X4_order (l : Launch) (G : va_G) (cI : ClassId) (sz : Nat) (y yp yb yr yl : Nat) (th h9 s9 : Int32) (lv : Nat → Int32) (S : Int32) (h6 : ∀ w, w < 16 → ∃ n, n ≤ 1000000 ∧ lv w = nI n) (hS6 : S &&& 65535 = S) : Met l yX4_order wsX4_order ({ frames := 2, cells := 1, slots := 16, locals := 60 }) (bv_P [.ref y, .int S] G cI (fun H => H.size = sz ∧ va_P G vwCl [(y, .inr (4, [.int th, .int h9, .ref yp, .int s9, .ref yb, .ref yr, .ref yl])), (yl, .inl (cI, 16, .inl lv))] H ∧ va_D (fun _ => True) [(y, .inr (4, [.int th, .int h9, .ref yp, .int s9, .ref yb, .ref yr, .ref yl])), (yl, .inl (cI, 16, .inl lv))])) (va_Qv (fun _ : Unit => True) (fun (_ : Unit) (T9 : State) => va_P G vwCl [(y, .inr (4, [.int th, .int h9, .ref yp, .int s9, .ref yb, .ref yr, .ref yl])), (yl, .inl (cI, 16, .inl (bv_ordr lv S)))] T9.heap) (va_A [(y, .inr (4, [.int th, .int h9, .ref yp, .int s9, .ref yb, .ref yr, .ref yl])), (yl, .inl (cI, 16, .inl lv))] sz)) 1 16 (va_A [(y, .inr (4, [.int th, .int h9, .ref yp, .int s9, .ref yb, .ref yr, .ref yl])), (yl, .inl (cI, 16, .inl lv))] sz) := by
  refine Met.ofW (cc := cX4_order) (maxL := 8) (ret := none) (by decide) rfl ?_
  intro p e s m args below meth c s₁ B hml hv
  obtain ⟨rfl, ⟨hsz, hP, hD0⟩, hE⟩ := hv
  have hx := B.exec
  have hb := B.bytes
  have hr := B.returns
  have hts := atoms_spec (ws := wsX4_order) B.pre
  have hown : s.vm.findClass RX4 = some m.cls := findClass_of_methodNamed B.named
  have hlocks := B.notSynchronized
  have hK := hE.1
  have hw0 := hts (.arrayClass .int) (List.mem_of_getElem? (i := 1) rfl)
  have hw1 := hts (.constant RX4 51 65535) (List.mem_of_getElem? (i := 2) rfl)
  have hw2 := hts (.fieldLink RX4 19 "BeliefReviserModel" "levels" "[I") (List.mem_of_getElem? (i := 3) rfl)
  have hw3 : ∀ w ∈ u_ws RX4 TX4 7, w ∈ wsX4_order := by decide +kernel
  have hw4 := hts (.methodLink RX4 120 arraycopyName) (List.mem_of_getElem? (i := 4) rfl)
  have hw5 := hts (.native arraycopyName) (List.mem_of_getElem? (i := 5) rfl)
  have hw6 := hts (.static arraycopyName) (List.mem_of_getElem? (i := 6) rfl)
  have hw7 := hts (.initialized "java/lang/System") (List.mem_of_getElem? (i := 7) rfl)
  have hw8 := hts (.static yX4_has) (List.mem_of_getElem? (i := 19) rfl)
  subst hsz
  have hD := hD0.self (sz := s.heap.size)
  generalize hAe : va_A [(y, .inr (4, [.int th, .int h9, .ref yp, .int s9, .ref yb, .ref yr, .ref yl])), (yl, .inl (cI, 16, .inl lv))] s.heap.size = A at hD ⊢
  have hA : ∀ q : Nat, s.heap.size ≤ q → A q := fun q h => by rw [← hAe]; exact Or.inr h
  have hS : va_S A s.heap s.heap [] := va_S.rf
  have hP : va_P G vwCl [(y, .inr (4, [.int th, .int h9, .ref yp, .int s9, .ref yb, .ref yr, .ref yl])), (yl, .inl (cI, 16, .inl lv))] s.heap := hP
  have hl := lv_entry ([.ref y, .int S]) (n := 8) (Nat.le_of_ble_eq_true rfl)
  rw [lg_entry_eq]
  generalize (lg_sl ([.ref y, .int S]) ++ List.replicate (8 - (lg_sl ([.ref y, .int S])).length) Slot.unset).toArray = ls at hl ⊢
  have hl : lv_has ls 8 [(0, .ref y), (1, .int S)] := hl
  have hlv := bv_hl6 h6
  refine lv_bipush (pc := 0) (v := 16) hx hb dX4_order_0 (by decide) ?_
  refine va_newa (pc := 2) (atype := .int) hx hb hw0 rfl hK hP hD hS hA (a0 := (16, .inl (fun _ => 0))) (fun _ => rfl) (by decide) rfl (by decide) (Nat.le_of_ble_eq_true rfl) (Nat.le_of_ble_eq_true rfl) dX4_order_2 (fun q_1 cA_2 H hK9 hP hD hS => ?_)
  obtain rfl := (bv_cI hK9).symm
  have hP : va_P G vwCl [(y, .inr (4, [.int th, .int h9, .ref yp, .int s9, .ref yb, .ref yr, .ref yl])), (yl, .inl (cI, 16, .inl lv)), (q_1, .inl (cI, 16, .inl (fun _ => 0)))] H := hP
  have hD : va_D A [(y, .inr (4, [.int th, .int h9, .ref yp, .int s9, .ref yb, .ref yr, .ref yl])), (yl, .inl (cI, 16, .inl lv)), (q_1, .inl (cI, 16, .inl (fun _ => 0)))] := hD
  refine W.widen (k := 1) (n := 16) (by omega) (by omega) ?_
  refine lv_astore_n (pc := 4) (lv' := [(2, .ref q_1), (0, .ref y), (1, .int S)]) hx hb dX4_order_4 rfl hl (by decide) rfl (fun ls hl => ?_)
  refine lv_iconst (pc := 5) (v := 0) hx hb dX4_order_5 (by decide) ?_
  refine lv_istore_n (pc := 6) (lv' := [(3, .int 0), (2, .ref q_1), (0, .ref y), (1, .int S)]) hx hb dX4_order_6 rfl hl (by decide) rfl (fun ls hl => ?_)
  refine lv_iconst (pc := 7) (v := 0) hx hb dX4_order_7 (by decide) ?_
  refine lv_istore (pc := 8) (lv' := [(4, .int 0), (3, .int 0), (2, .ref q_1), (0, .ref y), (1, .int S)]) hx hb dX4_order_8 hl (by decide) rfl (fun ls hl => ?_)
  refine lv_iload (pc := 10) hx hb dX4_order_10 (lv_at hl 0 rfl) ?_
  refine lv_iconst (pc := 12) (v := 2) hx hb dX4_order_12 (by decide) ?_
  refine lv_icmp_ge (pc := 13) (tgt := 104) hx hb dX4_order_13 (by decide) (fun c13_3 => ?_) (fun c13_3 => ?_)
  · exact absurd c13_3 (by decide)
  · refine lv_iload (pc := 16) hx hb dX4_order_16 (lv_at hl 0 rfl) ?_
    refine lv_if_ne (pc := 18) (tgt := 25) hx hb dX4_order_18 (by decide) (fun c18_4 => ?_) (fun c18_4 => ?_)
    · exact absurd rfl c18_4
    · refine lv_iload_n (pc := 21) hx hb dX4_order_21 rfl (lv_at hl 4 rfl) ?_
      refine lv_goto (pc := 22) (tgt := 31) hx hb dX4_order_22 (by decide) ?_
      
      refine lv_istore (pc := 31) (lv' := [(5, .int S), (4, .int 0), (3, .int 0), (2, .ref q_1), (0, .ref y), (1, .int S)]) hx hb dX4_order_31 hl (by decide) rfl (fun ls hl => ?_)
      have loop_33 : ∀ (fu9 : Nat) (L9 : Int32) (c9 : Nat) (f9 : Nat → Int32), bv_cnt (fun w => bv_has L9 (nI w)) 16 < fu9 → (L9 &&& 65535 = L9) → (∀ w, w < 16 → bv_has L9 (nI w) = true → bv_has S (nI w) = true) → (bv_ex (bv_key lv S) (fun w => bv_has S (nI w) = true ∧ bv_has L9 (nI w) = false) c9 f9) → ∀ (H : Heap) (locs : List Loc), va_P G vwCl [(y, .inr (4, [.int th, .int h9, .ref yp, .int s9, .ref yb, .ref yr, .ref yl])), (yl, .inl (cI, 16, .inl lv)), (q_1, .inl (cI, 16, .inl f9))] H → va_D A [(y, .inr (4, [.int th, .int h9, .ref yp, .int s9, .ref yb, .ref yr, .ref yl])), (yl, .inl (cI, 16, .inl lv)), (q_1, .inl (cI, 16, .inl f9))] → va_S A s.heap H locs → ∀ (ls : Array Slot), lv_has ls 8 [(5, .int L9), (4, .int 0), (3, .int (nI c9)), (2, .ref q_1), (0, .ref y), (1, .int S)] → W p l e (headSpec wsX4_order ({ frames := 2, cells := 1, slots := 16, locals := 60 })).room s m ([.ref y, .int S] : List Value).toArray below meth c H locs 1 16 (MQ below (va_Qv (fun _ : Unit => True) (fun (_ : Unit) (T9 : State) => va_P G vwCl [(y, .inr (4, [.int th, .int h9, .ref yp, .int s9, .ref yb, .ref yr, .ref yl])), (yl, .inl (cI, 16, .inl (bv_ordr lv S)))] T9.heap) A) ([.ref y, .int S] : List Value).toArray s 1 16 A) (F0 m 33 ls []) := by
        intro fu9
        induction fu9 with
        | zero => intro L9 c9 f9 hfu; exact absurd hfu (Nat.not_lt_zero _)
        | succ fu9 ih =>
          intro L9 c9 f9 hfu h16 hsub hi H locs hP hD hS ls hl
          have ih_33 := ih
          refine lv_iload (pc := 33) hx hb dX4_order_33 (lv_at hl 0 rfl) ?_
          refine lv_if_eq (pc := 35) (tgt := 98) hx hb dX4_order_35 (by decide) (fun c35_5 => ?_) (fun c35_5 => ?_)
          · have hz9 := c35_5
            refine lv_iinc (pc := 98) (v := 1) (lv' := [(4, .int 1), (5, .int L9), (3, .int (nI c9)), (2, .ref q_1), (0, .ref y), (1, .int S)]) hx hb dX4_order_98 hl (k := 1) rfl (by decide) (by decide) rfl (fun ls hl => ?_)
            refine lv_goto (pc := 101) (tgt := 10) hx hb dX4_order_101 (by decide) ?_
            refine lv_iload (pc := 10) hx hb dX4_order_10 (lv_at hl 0 rfl) ?_
            refine lv_iconst (pc := 12) (v := 2) hx hb dX4_order_12 (by decide) ?_
            refine lv_icmp_ge (pc := 13) (tgt := 104) hx hb dX4_order_13 (by decide) (fun c13_6 => ?_) (fun c13_6 => ?_)
            · exact absurd c13_6 (by decide)
            · refine lv_iload (pc := 16) hx hb dX4_order_16 (lv_at hl 0 rfl) ?_
              refine lv_if_ne (pc := 18) (tgt := 25) hx hb dX4_order_18 (by decide) (fun c18_7 => ?_) (fun c18_7 => ?_)
              · refine lv_ldc (pc := 25) hx hb hown hw1 dX4_order_25 ?_
                refine lv_iload_n (pc := 27) hx hb dX4_order_27 rfl (lv_at hl 5 rfl) ?_
                refine lv_iconst (pc := 28) (v := (-1)) hx hb dX4_order_28 (by decide) ?_
                refine lv_ixor (pc := 29) hx hb dX4_order_29 ?_
                refine lv_iand (pc := 30) hx hb dX4_order_30 ?_
                rw [show (65535 &&& (S ^^^ (-1))) = bv_not S from rfl]
                refine lv_istore (pc := 31) (lv' := [(5, .int (bv_not S)), (4, .int 1), (3, .int (nI c9)), (2, .ref q_1), (0, .ref y), (1, .int S)]) hx hb dX4_order_31 hl (by decide) rfl (fun ls hl => ?_)
                have loop_33 : ∀ (fu9 : Nat) (L9 : Int32) (c9 : Nat) (f9 : Nat → Int32), bv_cnt (fun w => bv_has L9 (nI w)) 16 < fu9 → (L9 &&& 65535 = L9) → (∀ w, w < 16 → bv_has L9 (nI w) = true → bv_has S (nI w) = false) → (bv_ex (bv_key lv S) (fun w => bv_has L9 (nI w) = false) c9 f9) → ∀ (H : Heap) (locs : List Loc), va_P G vwCl [(y, .inr (4, [.int th, .int h9, .ref yp, .int s9, .ref yb, .ref yr, .ref yl])), (yl, .inl (cI, 16, .inl lv)), (q_1, .inl (cI, 16, .inl f9))] H → va_D A [(y, .inr (4, [.int th, .int h9, .ref yp, .int s9, .ref yb, .ref yr, .ref yl])), (yl, .inl (cI, 16, .inl lv)), (q_1, .inl (cI, 16, .inl f9))] → va_S A s.heap H locs → ∀ (ls : Array Slot), lv_has ls 8 [(5, .int L9), (4, .int 1), (3, .int (nI c9)), (2, .ref q_1), (0, .ref y), (1, .int S)] → W p l e (headSpec wsX4_order ({ frames := 2, cells := 1, slots := 16, locals := 60 })).room s m ([.ref y, .int S] : List Value).toArray below meth c H locs 1 16 (MQ below (va_Qv (fun _ : Unit => True) (fun (_ : Unit) (T9 : State) => va_P G vwCl [(y, .inr (4, [.int th, .int h9, .ref yp, .int s9, .ref yb, .ref yr, .ref yl])), (yl, .inl (cI, 16, .inl (bv_ordr lv S)))] T9.heap) A) ([.ref y, .int S] : List Value).toArray s 1 16 A) (F0 m 33 ls []) := by
                  intro fu9
                  induction fu9 with
                  | zero => intro L9 c9 f9 hfu; exact absurd hfu (Nat.not_lt_zero _)
                  | succ fu9 ih =>
                    intro L9 c9 f9 hfu h16 hsub hi H locs hP hD hS ls hl
                    have ih_33 := ih
                    refine lv_iload (pc := 33) hx hb dX4_order_33 (lv_at hl 0 rfl) ?_
                    refine lv_if_eq (pc := 35) (tgt := 98) hx hb dX4_order_35 (by decide) (fun c35_8 => ?_) (fun c35_8 => ?_)
                    · have hz9 := c35_8
                      refine lv_iinc (pc := 98) (v := 2) (lv' := [(4, .int 2), (5, .int L9), (3, .int (nI c9)), (2, .ref q_1), (0, .ref y), (1, .int S)]) hx hb dX4_order_98 hl (k := 1) rfl (by decide) (by decide) rfl (fun ls hl => ?_)
                      refine lv_goto (pc := 101) (tgt := 10) hx hb dX4_order_101 (by decide) ?_
                      refine lv_iload (pc := 10) hx hb dX4_order_10 (lv_at hl 0 rfl) ?_
                      refine lv_iconst (pc := 12) (v := 2) hx hb dX4_order_12 (by decide) ?_
                      refine lv_icmp_ge (pc := 13) (tgt := 104) hx hb dX4_order_13 (by decide) (fun c13_9 => ?_) (fun c13_9 => ?_)
                      · refine lv_aload_n (pc := 104) hx hb dX4_order_104 rfl (lv_at hl 3 rfl) ?_
                        refine lv_iconst (pc := 105) (v := 0) hx hb dX4_order_105 (by decide) ?_
                        refine lv_aload_n (pc := 106) hx hb dX4_order_106 rfl (lv_at hl 4 rfl) ?_
                        refine va_get (pc := 107) (D := G) (ci := 4) (v := .ref yl) (C := RX4) (T := TX4) (N := 7) hx hb hts hw3 hown hK hP 0 rfl rfl 6 (by decide) hw2 (fun _ h9 => h9) rfl dX4_order_107 ?_
                        refine lv_iconst (pc := 110) (v := 0) hx hb dX4_order_110 (by decide) ?_
                        refine lv_bipush (pc := 111) (v := 16) hx hb dX4_order_111 (by decide) ?_
                        refine va_copyi (pc := 113) hx hb (hml.trans hl.1.symm) hown hw4 hw5 hw6 hw7 hK hP hD hS 2 1 0 0 rfl rfl rfl rfl rfl (by decide) (by decide) (by decide) (by decide) (by decide) (fun _ _ => rfl) (Nat.le_of_ble_eq_true rfl) (Nat.le_of_ble_eq_true rfl) dX4_order_113 (fun H locs hP hD hS => ?_)
                        have hP : va_P G vwCl [(y, .inr (4, [.int th, .int h9, .ref yp, .int s9, .ref yb, .ref yr, .ref yl])), (yl, .inl (cI, 16, .inl (va_cpy f9 lv (0 : Int32).toNatClampNeg (0 : Int32).toNatClampNeg (16 : Int32).toNatClampNeg))), (q_1, .inl (cI, 16, .inl f9))] H := hP
                        have hD : va_D A [(y, .inr (4, [.int th, .int h9, .ref yp, .int s9, .ref yb, .ref yr, .ref yl])), (yl, .inl (cI, 16, .inl (va_cpy f9 lv (0 : Int32).toNatClampNeg (0 : Int32).toNatClampNeg (16 : Int32).toNatClampNeg))), (q_1, .inl (cI, 16, .inl f9))] := hD
                        have hP9 : va_P G vwCl [(y, .inr (4, [.int th, .int h9, .ref yp, .int s9, .ref yb, .ref yr, .ref yl])), (yl, .inl (cI, 16, .inl (bv_ordr lv S)))] H := by rw [hz9] at hi; rw [bv_ord_e hi] at hP; exact hP.sub [0, 1] rfl
                        refine W.widen (k := 1) (n := 16) (by decide) (by decide) ?_
                        exact W.vret (pc := 116) hx hb hr (fun T8 hT8 hW8 => ⟨⟨(), rfl, trivial, bv_hP hT8 hP9⟩, hS.F hT8⟩) hS.2.2 dX4_order_116
                      · exact absurd (by decide) c13_9
                    · have hne := c35_8
                      refine lv_aload_n (pc := 38) hx hb dX4_order_38 rfl (lv_at hl 4 rfl) ?_
                      refine lv_iload (pc := 39) hx hb dX4_order_39 (lv_at hl 0 rfl) ?_
                      refine lv_aload_n (pc := 41) hx hb dX4_order_41 rfl (lv_at hl 4 rfl) ?_
                      refine lv_iload (pc := 42) hx hb dX4_order_42 (lv_at hl 0 rfl) ?_
                      have hPc := hP.sub (ws' := [(y, .inr (4, [.int th, .int h9, .ref yp, .int s9, .ref yb, .ref yr, .ref yl])), (yl, .inl (cI, 16, .inl lv))]) [0, 1] rfl
                      refine bv_cSi (pc := 44) (E' := (bv_ll lv L9 16)) (va_runV (As := [.int L9]) (rest := [.int L9, .ref y]) ⟨hx, hb, hml, hown, hts⟩ (m_X4_least l G cI y yp yb yr yl th h9 s9 lv L9 ) (cwV 1 hts gX4_order_X4_least rfl rfl rfl (by decide +kernel) ⟨Nat.le_of_ble_eq_true rfl, Nat.le_of_ble_eq_true rfl⟩) (bv_pV hE hPc (va_recv hK hP (ci := 4) (q0 := 0) rfl rfl)) rfl rfl hl.1 rfl (lv_room (Nat.le_of_ble_eq_true rfl)) dX4_order_44 ⟨Nat.le_of_ble_eq_true rfl, Nat.le_of_ble_eq_true rfl⟩) (bv_ls_eq hlv h16 hne) ?_
                      have hPc := hP.sub (ws' := [(y, .inr (4, [.int th, .int h9, .ref yp, .int s9, .ref yb, .ref yr, .ref yl])), (yl, .inl (cI, 16, .inl lv))]) [0, 1] rfl
                      refine bv_cSi (pc := 47) (E' := (bv_mp lv L9)) (va_runV (As := [.int L9, .int (bv_ll lv L9 16)]) (rest := []) ⟨hx, hb, hml, hown, hts⟩ (m_X4_withLevel l G cI y yp yb yr yl th h9 s9 lv L9 (bv_ll lv L9 16) ) (cwV 2 hts gX4_order_X4_withLevel rfl rfl rfl (by decide +kernel) ⟨Nat.le_of_ble_eq_true rfl, Nat.le_of_ble_eq_true rfl⟩) (bv_pV hE hPc (va_recv hK hP (ci := 4) (q0 := 0) rfl rfl)) rfl rfl hl.1 rfl (lv_room (Nat.le_of_ble_eq_true rfl)) dX4_order_47 ⟨Nat.le_of_ble_eq_true rfl, Nat.le_of_ble_eq_true rfl⟩) rfl ?_
                      refine lv_istore (pc := 50) (lv' := [(6, .int (bv_mp lv L9)), (5, .int L9), (4, .int 1), (3, .int (nI c9)), (2, .ref q_1), (0, .ref y), (1, .int S)]) hx hb dX4_order_50 hl (by decide) rfl (fun ls hl => ?_)
                      refine lv_iconst (pc := 52) (v := 0) hx hb dX4_order_52 (by decide) ?_
                      refine lv_istore (pc := 53) (lv' := [(7, .int 0), (6, .int (bv_mp lv L9)), (5, .int L9), (4, .int 1), (3, .int (nI c9)), (2, .ref q_1), (0, .ref y), (1, .int S)]) hx hb dX4_order_53 hl (by decide) rfl (fun ls hl => ?_)
                      have loop_55 : ∀ (fu9 : Nat) (k : Nat), 16 - k < fu9 → (k ≤ 16) → ∀ (H : Heap) (locs : List Loc), va_P G vwCl [(y, .inr (4, [.int th, .int h9, .ref yp, .int s9, .ref yb, .ref yr, .ref yl])), (yl, .inl (cI, 16, .inl lv)), (q_1, .inl (cI, 16, .inl (bv_st f9 (bv_mp lv L9) (nI c9) k)))] H → va_D A [(y, .inr (4, [.int th, .int h9, .ref yp, .int s9, .ref yb, .ref yr, .ref yl])), (yl, .inl (cI, 16, .inl lv)), (q_1, .inl (cI, 16, .inl (bv_st f9 (bv_mp lv L9) (nI c9) k)))] → va_S A s.heap H locs → ∀ (ls : Array Slot), lv_has ls 8 [(7, .int (nI k)), (6, .int (bv_mp lv L9)), (5, .int L9), (4, .int 1), (3, .int (nI c9)), (2, .ref q_1), (0, .ref y), (1, .int S)] → W p l e (headSpec wsX4_order ({ frames := 2, cells := 1, slots := 16, locals := 60 })).room s m ([.ref y, .int S] : List Value).toArray below meth c H locs 1 16 (MQ below (va_Qv (fun _ : Unit => True) (fun (_ : Unit) (T9 : State) => va_P G vwCl [(y, .inr (4, [.int th, .int h9, .ref yp, .int s9, .ref yb, .ref yr, .ref yl])), (yl, .inl (cI, 16, .inl (bv_ordr lv S)))] T9.heap) A) ([.ref y, .int S] : List Value).toArray s 1 16 A) (F0 m 55 ls []) := by
                        intro fu9
                        induction fu9 with
                        | zero => intro k hfu; exact absurd hfu (Nat.not_lt_zero _)
                        | succ fu9 ih =>
                          intro k hfu hk H locs hP hD hS ls hl
                          refine lv_iload (pc := 55) hx hb dX4_order_55 (lv_at hl 0 rfl) ?_
                          refine lv_bipush (pc := 57) (v := 16) hx hb dX4_order_57 (by decide) ?_
                          refine lv_icmp_ge (pc := 59) (tgt := 83) hx hb dX4_order_59 (by decide) (fun c59_14 => ?_) (fun c59_14 => ?_)
                          · have hkn : 16 = k := by
                              by_cases h : k < 16
                              · exact absurd (show nI 16 ≤ nI k from c59_14) (nI_ge h (by omega))
                              · omega
                            subst hkn
                            refine lv_iload (pc := 83) hx hb dX4_order_83 (lv_at hl 2 rfl) ?_
                            refine lv_iload (pc := 85) hx hb dX4_order_85 (lv_at hl 1 rfl) ?_
                            refine lv_iconst (pc := 87) (v := (-1)) hx hb dX4_order_87 (by decide) ?_
                            refine lv_ixor (pc := 88) hx hb dX4_order_88 ?_
                            refine lv_iand (pc := 89) hx hb dX4_order_89 ?_
                            refine lv_istore (pc := 90) (lv' := [(5, .int (L9 &&& ((bv_mp lv L9) ^^^ (-1)))), (7, .int (nI 16)), (6, .int (bv_mp lv L9)), (4, .int 1), (3, .int (nI c9)), (2, .ref q_1), (0, .ref y), (1, .int S)]) hx hb dX4_order_90 hl (by decide) rfl (fun ls hl => ?_)
                            refine lv_iinc (pc := 92) (v := (nI (c9 + 1))) (lv' := [(3, .int (nI (c9 + 1))), (5, .int (L9 &&& ((bv_mp lv L9) ^^^ (-1)))), (7, .int (nI 16)), (6, .int (bv_mp lv L9)), (4, .int 1), (2, .ref q_1), (0, .ref y), (1, .int S)]) hx hb dX4_order_92 hl (k := 4) rfl (nI_1 c9) (by decide) rfl (fun ls hl => ?_)
                            refine lv_goto (pc := 95) (tgt := 33) hx hb dX4_order_95 (by decide) ?_
                            have hst := (bv_left hlv h16 hne).2.1
                            exact ih_33 (L9 &&& ((bv_mp lv L9) ^^^ (-1))) (c9 + 1) (bv_st f9 (bv_mp lv L9) (nI c9) 16) (by omega) ((bv_left hlv h16 hne).1) ((bv_ord1 h6 h16 hsub hne hi).2) ((bv_ord1 h6 h16 hsub hne hi).1) H _ hP hD hS ls (lv_sub hl [1, 4, 0, 5, 6, 7] rfl)
                          · have hkn : k < 16 := by
                              by_cases h : k < 16
                              · exact h
                              · exact absurd (show nI 16 ≤ nI k from nI_le (by omega) (by omega)) c59_14
                            refine lv_iload (pc := 62) hx hb dX4_order_62 (lv_at hl 1 rfl) ?_
                            refine lv_iload (pc := 64) hx hb dX4_order_64 (lv_at hl 0 rfl) ?_
                            have hPc := hP.sub (ws' := []) [] rfl
                            refine bv_cSi (pc := 66) (E' := (bv_b (bv_has (bv_mp lv L9) (nI k)))) (va_runS (As := [.int (bv_mp lv L9), .int (nI k)]) (rest := []) ⟨hx, hb, hml, hown, hts⟩ (m_X4_has l G cI (bv_mp lv L9) (nI k) ) (va_cwS 2 hts gX4_order_X4_has rfl rfl rfl (by decide +kernel) ⟨Nat.le_of_ble_eq_true rfl, Nat.le_of_ble_eq_true rfl⟩) (bv_pS hE hPc) rfl rfl hl.1 rfl (lv_room (Nat.le_of_ble_eq_true rfl)) dX4_order_66 ⟨Nat.le_of_ble_eq_true rfl, Nat.le_of_ble_eq_true rfl⟩) rfl ?_
                            refine lv_if_eq (pc := 69) (tgt := 77) hx hb dX4_order_69 (by decide) (fun c69_17 => ?_) (fun c69_17 => ?_)
                            · have h2 := bv_b0.mp c69_17
                              refine lv_iinc (pc := 77) (v := (nI (k + 1))) (lv' := [(7, .int (nI (k + 1))), (6, .int (bv_mp lv L9)), (5, .int L9), (4, .int 1), (3, .int (nI c9)), (2, .ref q_1), (0, .ref y), (1, .int S)]) hx hb dX4_order_77 hl (k := 0) rfl (nI_1 k) (by decide) rfl (fun ls hl => ?_)
                              refine lv_goto (pc := 80) (tgt := 55) hx hb dX4_order_80 (by decide) ?_
                              rw [show (bv_st f9 (bv_mp lv L9) (nI c9) k) = (bv_st f9 (bv_mp lv L9) (nI c9) (k + 1)) from bv_st_n h2] at hP hD
                              exact ih (k + 1) (by omega) (by omega) H _ hP hD hS ls (lv_sub hl [0, 1, 2, 3, 4, 5, 6, 7] rfl)
                            · have h2 := bv_b1.mp c69_17
                              refine lv_aload_n (pc := 72) hx hb dX4_order_72 rfl (lv_at hl 5 rfl) ?_
                              refine lv_iload (pc := 73) hx hb dX4_order_73 (lv_at hl 0 rfl) ?_
                              refine lv_iload_n (pc := 75) hx hb dX4_order_75 rfl (lv_at hl 4 rfl) ?_
                              refine va_iast (pc := 76) hx hb hK hP hD hS 2 0 rfl rfl (vp_in_nI (by omega) (by decide)) dX4_order_76 (fun H locs hP hD hS => ?_)
                              have hP : va_P G vwCl [(y, .inr (4, [.int th, .int h9, .ref yp, .int s9, .ref yb, .ref yr, .ref yl])), (yl, .inl (cI, 16, .inl lv)), (q_1, .inl (cI, 16, .inl (upd (bv_st f9 (bv_mp lv L9) (nI c9) k) (nI k).toNatClampNeg (nI c9))))] H := hP
                              have hD : va_D A [(y, .inr (4, [.int th, .int h9, .ref yp, .int s9, .ref yb, .ref yr, .ref yl])), (yl, .inl (cI, 16, .inl lv)), (q_1, .inl (cI, 16, .inl (upd (bv_st f9 (bv_mp lv L9) (nI c9) k) (nI k).toNatClampNeg (nI c9))))] := hD
                              rw [show (upd (bv_st f9 (bv_mp lv L9) (nI c9) k) (nI k).toNatClampNeg (nI c9)) = (bv_st f9 (bv_mp lv L9) (nI c9) (k + 1)) from by rw [nI_clamp (by omega)]; exact bv_st_s h2] at hP hD
                              refine lv_iinc (pc := 77) (v := (nI (k + 1))) (lv' := [(7, .int (nI (k + 1))), (6, .int (bv_mp lv L9)), (5, .int L9), (4, .int 1), (3, .int (nI c9)), (2, .ref q_1), (0, .ref y), (1, .int S)]) hx hb dX4_order_77 hl (k := 0) rfl (nI_1 k) (by decide) rfl (fun ls hl => ?_)
                              refine lv_goto (pc := 80) (tgt := 55) hx hb dX4_order_80 (by decide) ?_
                              exact ih (k + 1) (by omega) (by omega) H _ hP hD hS ls (lv_sub hl [0, 1, 2, 3, 4, 5, 6, 7] rfl)
                      rw [← bv_st_0 (f := f9) (S := bv_mp lv L9) (x := nI c9)] at hP hD
                      exact loop_55 (16 - 0 + 1) 0 (Nat.lt_succ_self _) (Nat.zero_le _) H _ hP hD hS ls (lv_sub hl [0, 1, 2, 3, 4, 5, 6, 7] rfl)
                exact loop_33 (bv_cnt (fun w => bv_has (bv_not S) (nI w)) 16 + 1) (bv_not S) c9 f9 (Nat.lt_succ_self _) (bv_not16 _) (fun w hw q => by rw [bv_has_not hS6 hw] at q; cases z : bv_has S (nI w) <;> simp_all) (by rw [hz9] at hi; exact bv_ord_s hS6 hi) H _ hP hD hS ls (lv_sub hl [0, 1, 2, 3, 4, 5] rfl)
              · exact absurd c18_7 (by decide)
          · have hne := c35_5
            refine lv_aload_n (pc := 38) hx hb dX4_order_38 rfl (lv_at hl 4 rfl) ?_
            refine lv_iload (pc := 39) hx hb dX4_order_39 (lv_at hl 0 rfl) ?_
            refine lv_aload_n (pc := 41) hx hb dX4_order_41 rfl (lv_at hl 4 rfl) ?_
            refine lv_iload (pc := 42) hx hb dX4_order_42 (lv_at hl 0 rfl) ?_
            have hPc := hP.sub (ws' := [(y, .inr (4, [.int th, .int h9, .ref yp, .int s9, .ref yb, .ref yr, .ref yl])), (yl, .inl (cI, 16, .inl lv))]) [0, 1] rfl
            refine bv_cSi (pc := 44) (E' := (bv_ll lv L9 16)) (va_runV (As := [.int L9]) (rest := [.int L9, .ref y]) ⟨hx, hb, hml, hown, hts⟩ (m_X4_least l G cI y yp yb yr yl th h9 s9 lv L9 ) (cwV 1 hts gX4_order_X4_least rfl rfl rfl (by decide +kernel) ⟨Nat.le_of_ble_eq_true rfl, Nat.le_of_ble_eq_true rfl⟩) (bv_pV hE hPc (va_recv hK hP (ci := 4) (q0 := 0) rfl rfl)) rfl rfl hl.1 rfl (lv_room (Nat.le_of_ble_eq_true rfl)) dX4_order_44 ⟨Nat.le_of_ble_eq_true rfl, Nat.le_of_ble_eq_true rfl⟩) (bv_ls_eq hlv h16 hne) ?_
            have hPc := hP.sub (ws' := [(y, .inr (4, [.int th, .int h9, .ref yp, .int s9, .ref yb, .ref yr, .ref yl])), (yl, .inl (cI, 16, .inl lv))]) [0, 1] rfl
            refine bv_cSi (pc := 47) (E' := (bv_mp lv L9)) (va_runV (As := [.int L9, .int (bv_ll lv L9 16)]) (rest := []) ⟨hx, hb, hml, hown, hts⟩ (m_X4_withLevel l G cI y yp yb yr yl th h9 s9 lv L9 (bv_ll lv L9 16) ) (cwV 2 hts gX4_order_X4_withLevel rfl rfl rfl (by decide +kernel) ⟨Nat.le_of_ble_eq_true rfl, Nat.le_of_ble_eq_true rfl⟩) (bv_pV hE hPc (va_recv hK hP (ci := 4) (q0 := 0) rfl rfl)) rfl rfl hl.1 rfl (lv_room (Nat.le_of_ble_eq_true rfl)) dX4_order_47 ⟨Nat.le_of_ble_eq_true rfl, Nat.le_of_ble_eq_true rfl⟩) rfl ?_
            refine lv_istore (pc := 50) (lv' := [(6, .int (bv_mp lv L9)), (5, .int L9), (4, .int 0), (3, .int (nI c9)), (2, .ref q_1), (0, .ref y), (1, .int S)]) hx hb dX4_order_50 hl (by decide) rfl (fun ls hl => ?_)
            refine lv_iconst (pc := 52) (v := 0) hx hb dX4_order_52 (by decide) ?_
            refine lv_istore (pc := 53) (lv' := [(7, .int 0), (6, .int (bv_mp lv L9)), (5, .int L9), (4, .int 0), (3, .int (nI c9)), (2, .ref q_1), (0, .ref y), (1, .int S)]) hx hb dX4_order_53 hl (by decide) rfl (fun ls hl => ?_)
            have loop_55 : ∀ (fu9 : Nat) (k : Nat), 16 - k < fu9 → (k ≤ 16) → ∀ (H : Heap) (locs : List Loc), va_P G vwCl [(y, .inr (4, [.int th, .int h9, .ref yp, .int s9, .ref yb, .ref yr, .ref yl])), (yl, .inl (cI, 16, .inl lv)), (q_1, .inl (cI, 16, .inl (bv_st f9 (bv_mp lv L9) (nI c9) k)))] H → va_D A [(y, .inr (4, [.int th, .int h9, .ref yp, .int s9, .ref yb, .ref yr, .ref yl])), (yl, .inl (cI, 16, .inl lv)), (q_1, .inl (cI, 16, .inl (bv_st f9 (bv_mp lv L9) (nI c9) k)))] → va_S A s.heap H locs → ∀ (ls : Array Slot), lv_has ls 8 [(7, .int (nI k)), (6, .int (bv_mp lv L9)), (5, .int L9), (4, .int 0), (3, .int (nI c9)), (2, .ref q_1), (0, .ref y), (1, .int S)] → W p l e (headSpec wsX4_order ({ frames := 2, cells := 1, slots := 16, locals := 60 })).room s m ([.ref y, .int S] : List Value).toArray below meth c H locs 1 16 (MQ below (va_Qv (fun _ : Unit => True) (fun (_ : Unit) (T9 : State) => va_P G vwCl [(y, .inr (4, [.int th, .int h9, .ref yp, .int s9, .ref yb, .ref yr, .ref yl])), (yl, .inl (cI, 16, .inl (bv_ordr lv S)))] T9.heap) A) ([.ref y, .int S] : List Value).toArray s 1 16 A) (F0 m 55 ls []) := by
              intro fu9
              induction fu9 with
              | zero => intro k hfu; exact absurd hfu (Nat.not_lt_zero _)
              | succ fu9 ih =>
                intro k hfu hk H locs hP hD hS ls hl
                refine lv_iload (pc := 55) hx hb dX4_order_55 (lv_at hl 0 rfl) ?_
                refine lv_bipush (pc := 57) (v := 16) hx hb dX4_order_57 (by decide) ?_
                refine lv_icmp_ge (pc := 59) (tgt := 83) hx hb dX4_order_59 (by decide) (fun c59_22 => ?_) (fun c59_22 => ?_)
                · have hkn : 16 = k := by
                    by_cases h : k < 16
                    · exact absurd (show nI 16 ≤ nI k from c59_22) (nI_ge h (by omega))
                    · omega
                  subst hkn
                  refine lv_iload (pc := 83) hx hb dX4_order_83 (lv_at hl 2 rfl) ?_
                  refine lv_iload (pc := 85) hx hb dX4_order_85 (lv_at hl 1 rfl) ?_
                  refine lv_iconst (pc := 87) (v := (-1)) hx hb dX4_order_87 (by decide) ?_
                  refine lv_ixor (pc := 88) hx hb dX4_order_88 ?_
                  refine lv_iand (pc := 89) hx hb dX4_order_89 ?_
                  refine lv_istore (pc := 90) (lv' := [(5, .int (L9 &&& ((bv_mp lv L9) ^^^ (-1)))), (7, .int (nI 16)), (6, .int (bv_mp lv L9)), (4, .int 0), (3, .int (nI c9)), (2, .ref q_1), (0, .ref y), (1, .int S)]) hx hb dX4_order_90 hl (by decide) rfl (fun ls hl => ?_)
                  refine lv_iinc (pc := 92) (v := (nI (c9 + 1))) (lv' := [(3, .int (nI (c9 + 1))), (5, .int (L9 &&& ((bv_mp lv L9) ^^^ (-1)))), (7, .int (nI 16)), (6, .int (bv_mp lv L9)), (4, .int 0), (2, .ref q_1), (0, .ref y), (1, .int S)]) hx hb dX4_order_92 hl (k := 4) rfl (nI_1 c9) (by decide) rfl (fun ls hl => ?_)
                  refine lv_goto (pc := 95) (tgt := 33) hx hb dX4_order_95 (by decide) ?_
                  have hst := (bv_left hlv h16 hne).2.1
                  exact ih_33 (L9 &&& ((bv_mp lv L9) ^^^ (-1))) (c9 + 1) (bv_st f9 (bv_mp lv L9) (nI c9) 16) (by omega) ((bv_left hlv h16 hne).1) ((bv_ord0 h6 h16 hsub hne hi).2) ((bv_ord0 h6 h16 hsub hne hi).1) H _ hP hD hS ls (lv_sub hl [1, 4, 0, 5, 6, 7] rfl)
                · have hkn : k < 16 := by
                    by_cases h : k < 16
                    · exact h
                    · exact absurd (show nI 16 ≤ nI k from nI_le (by omega) (by omega)) c59_22
                  refine lv_iload (pc := 62) hx hb dX4_order_62 (lv_at hl 1 rfl) ?_
                  refine lv_iload (pc := 64) hx hb dX4_order_64 (lv_at hl 0 rfl) ?_
                  have hPc := hP.sub (ws' := []) [] rfl
                  refine bv_cSi (pc := 66) (E' := (bv_b (bv_has (bv_mp lv L9) (nI k)))) (va_runS (As := [.int (bv_mp lv L9), .int (nI k)]) (rest := []) ⟨hx, hb, hml, hown, hts⟩ (m_X4_has l G cI (bv_mp lv L9) (nI k) ) (va_cwS 2 hts gX4_order_X4_has rfl rfl rfl (by decide +kernel) ⟨Nat.le_of_ble_eq_true rfl, Nat.le_of_ble_eq_true rfl⟩) (bv_pS hE hPc) rfl rfl hl.1 rfl (lv_room (Nat.le_of_ble_eq_true rfl)) dX4_order_66 ⟨Nat.le_of_ble_eq_true rfl, Nat.le_of_ble_eq_true rfl⟩) rfl ?_
                  refine lv_if_eq (pc := 69) (tgt := 77) hx hb dX4_order_69 (by decide) (fun c69_25 => ?_) (fun c69_25 => ?_)
                  · have h2 := bv_b0.mp c69_25
                    refine lv_iinc (pc := 77) (v := (nI (k + 1))) (lv' := [(7, .int (nI (k + 1))), (6, .int (bv_mp lv L9)), (5, .int L9), (4, .int 0), (3, .int (nI c9)), (2, .ref q_1), (0, .ref y), (1, .int S)]) hx hb dX4_order_77 hl (k := 0) rfl (nI_1 k) (by decide) rfl (fun ls hl => ?_)
                    refine lv_goto (pc := 80) (tgt := 55) hx hb dX4_order_80 (by decide) ?_
                    rw [show (bv_st f9 (bv_mp lv L9) (nI c9) k) = (bv_st f9 (bv_mp lv L9) (nI c9) (k + 1)) from bv_st_n h2] at hP hD
                    exact ih (k + 1) (by omega) (by omega) H _ hP hD hS ls (lv_sub hl [0, 1, 2, 3, 4, 5, 6, 7] rfl)
                  · have h2 := bv_b1.mp c69_25
                    refine lv_aload_n (pc := 72) hx hb dX4_order_72 rfl (lv_at hl 5 rfl) ?_
                    refine lv_iload (pc := 73) hx hb dX4_order_73 (lv_at hl 0 rfl) ?_
                    refine lv_iload_n (pc := 75) hx hb dX4_order_75 rfl (lv_at hl 4 rfl) ?_
                    refine va_iast (pc := 76) hx hb hK hP hD hS 2 0 rfl rfl (vp_in_nI (by omega) (by decide)) dX4_order_76 (fun H locs hP hD hS => ?_)
                    have hP : va_P G vwCl [(y, .inr (4, [.int th, .int h9, .ref yp, .int s9, .ref yb, .ref yr, .ref yl])), (yl, .inl (cI, 16, .inl lv)), (q_1, .inl (cI, 16, .inl (upd (bv_st f9 (bv_mp lv L9) (nI c9) k) (nI k).toNatClampNeg (nI c9))))] H := hP
                    have hD : va_D A [(y, .inr (4, [.int th, .int h9, .ref yp, .int s9, .ref yb, .ref yr, .ref yl])), (yl, .inl (cI, 16, .inl lv)), (q_1, .inl (cI, 16, .inl (upd (bv_st f9 (bv_mp lv L9) (nI c9) k) (nI k).toNatClampNeg (nI c9))))] := hD
                    rw [show (upd (bv_st f9 (bv_mp lv L9) (nI c9) k) (nI k).toNatClampNeg (nI c9)) = (bv_st f9 (bv_mp lv L9) (nI c9) (k + 1)) from by rw [nI_clamp (by omega)]; exact bv_st_s h2] at hP hD
                    refine lv_iinc (pc := 77) (v := (nI (k + 1))) (lv' := [(7, .int (nI (k + 1))), (6, .int (bv_mp lv L9)), (5, .int L9), (4, .int 0), (3, .int (nI c9)), (2, .ref q_1), (0, .ref y), (1, .int S)]) hx hb dX4_order_77 hl (k := 0) rfl (nI_1 k) (by decide) rfl (fun ls hl => ?_)
                    refine lv_goto (pc := 80) (tgt := 55) hx hb dX4_order_80 (by decide) ?_
                    exact ih (k + 1) (by omega) (by omega) H _ hP hD hS ls (lv_sub hl [0, 1, 2, 3, 4, 5, 6, 7] rfl)
            rw [← bv_st_0 (f := f9) (S := bv_mp lv L9) (x := nI c9)] at hP hD
            exact loop_55 (16 - 0 + 1) 0 (Nat.lt_succ_self _) (Nat.zero_le _) H _ hP hD hS ls (lv_sub hl [0, 1, 2, 3, 4, 5, 6, 7] rfl)
      exact loop_33 (bv_cnt (fun w => bv_has S (nI w)) 16 + 1) S 0 (fun _ => 0) (Nat.lt_succ_self _) hS6 (fun w hw q => q) bv_ord_i H _ hP hD hS ls (lv_sub hl [0, 1, 2, 3, 4, 5] rfl)
