/-! Least levels: the reference's way and the class's; sets of worlds have 16 bits. -/
def bv_ls (lv : Nat → Int32) (S : Int32) : Nat → Int32
  | 0 => 2147483647
  | w + 1 => if bv_has S (nI w) then bv_min (bv_ls lv S w) (lv w) else bv_ls lv S w
theorem bv_ls_ll {lv : Nat → Int32} {S : Int32} (h : ∀ w, w < 16 → 0 ≤ lv w ∧ lv w < 2147483647) : ∀ k, k ≤ 16 → (bv_ll lv S k = -1 ∧ bv_ls lv S k = 2147483647 ∧ ∀ w, w < k → bv_has S (nI w) = false) ∨ (0 ≤ bv_ll lv S k ∧ bv_ls lv S k = bv_ll lv S k)
  | 0, _ => Or.inl ⟨rfl, rfl, fun w hw => absurd hw (Nat.not_lt_zero _)⟩
  | k + 1, hk => by
    have hl := h k (by omega)
    cases hh : bv_has S (nI k) with
    | false =>
      rw [bv_ll, bv_ls, hh, if_neg (fun q => absurd q.1 (by decide)), if_neg (by decide)]
      rcases bv_ls_ll h k (by omega) with ⟨h1, h2, h3⟩ | h1
      · refine Or.inl ⟨h1, h2, fun w hw => ?_⟩
        by_cases e : w = k
        · subst e; exact hh
        · exact h3 w (by omega)
      · exact Or.inr h1
    | true =>
      refine Or.inr ?_
      rw [bv_ll, bv_ls, hh, if_pos rfl]
      rcases bv_ls_ll h k (by omega) with ⟨h1, h2, h3⟩ | ⟨h1, h2⟩
      · rw [h1, h2, if_pos ⟨rfl, Or.inl (by decide)⟩]
        unfold bv_min
        rw [if_pos hl.2]
        exact ⟨hl.1, rfl⟩
      · rw [h2]
        unfold bv_min
        by_cases q : lv k < bv_ll lv S k
        · rw [if_pos q, if_pos ⟨rfl, Or.inr q⟩]; exact ⟨hl.1, rfl⟩
        · rw [if_neg q, if_neg (fun z => z.2.elim (Int32.not_lt.mpr h1) q)]; exact ⟨h1, rfl⟩
theorem bv_16 {x : Int32} (h : x &&& 65535 = x) : ∃ n, n < 65536 ∧ x = nI n := by
  obtain ⟨j, hj, e⟩ := pk_andE x (m := 65535) 16 (by decide)
  exact ⟨j, hj, by rw [← h]; exact e⟩
theorem bv_nI16 {n : Nat} (h : n < 65536) : nI n &&& 65535 = nI n := by
  rw [show (65535 : Int32) = nI 65535 from rfl, bv_nIa]
  congr 1
  have := Nat.and_two_pow_sub_one_eq_mod n 16
  rw [show 2 ^ 16 - 1 = 65535 from rfl] at this
  rw [this, Nat.mod_eq_of_lt (by omega)]
theorem bv_some {S : Int32} (h : S &&& 65535 = S) (h0 : ¬ S = 0) : ∃ w, w < 16 ∧ bv_has S (nI w) = true := by
  obtain ⟨n, hn, rfl⟩ := bv_16 h
  have h1 : n ≠ 0 := fun e => h0 (by rw [e]; rfl)
  obtain ⟨i, hi⟩ := Nat.exists_testBit_of_ne_zero h1
  have h2 : i < 16 := by
    rcases Nat.lt_or_ge i 16 with q | q
    · exact q
    · have := Nat.testBit_lt_two_pow (show n < 2 ^ i from Nat.lt_of_lt_of_le hn (show 2 ^ 16 ≤ 2 ^ i from Nat.pow_le_pow_right (by decide) q))
      rw [hi] at this; exact absurd this (by decide)
  exact ⟨i, h2, by rw [bv_has_nI (by omega) (by omega)]; exact hi⟩
theorem bv_ls_eq {lv : Nat → Int32} {S : Int32} (h : ∀ w, w < 16 → 0 ≤ lv w ∧ lv w < 2147483647) (hS : S &&& 65535 = S) (h0 : ¬ S = 0) : bv_ls lv S 16 = bv_ll lv S 16 := by
  obtain ⟨w, hw, hh⟩ := bv_some hS h0
  rcases bv_ls_ll h 16 (Nat.le_refl _) (S := S) with ⟨-, -, h3⟩ | ⟨-, h2⟩
  · rw [h3 w hw] at hh; exact absurd hh (by decide)
  · exact h2
theorem bv_not16 (x : Int32) : bv_not x &&& 65535 = bv_not x := by
  unfold bv_not
  rw [bv_aac, show (65535 : Int32) &&& 65535 = 65535 from by decide]
theorem bv_notnz {x : Int32} (h : x &&& 65535 = x) (h0 : ¬ x = 65535) : ¬ bv_not x = 0 := by
  intro e
  have h1 := bv_not_x h
  rw [e] at h1
  apply h0
  have h2 : x ^^^ 65535 ^^^ 65535 = x := by rw [Int32.xor_assoc, Int32.xor_self, Int32.xor_zero]
  rw [h1] at h2
  rw [← h2]; decide
theorem bv_not_all : bv_not 65535 = 0 := by decide
theorem bv_has0 (w : Nat) (hw : w < 16) : bv_has 0 (nI w) = false := by
  have := bv_has_nI (t := 0) (k := w) (by decide) (by omega)
  rw [show nI 0 = 0 from rfl] at this
  rw [this, Nat.zero_testBit]
theorem bv_ll0 (lv : Nat → Int32) : ∀ k, k ≤ 16 → bv_ll lv 0 k = -1
  | 0, _ => rfl
  | k + 1, hk => by rw [bv_ll, bv_has0 k (by omega), if_neg (fun q => absurd q.1 (by decide))]; exact bv_ll0 lv k (by omega)
theorem bv_wa0 (lv : Nat → Int32) (x : Int32) : ∀ k, k ≤ 16 → bv_wa lv 0 x k = 0
  | 0, _ => rfl
  | k + 1, hk => by rw [bv_wa, bv_has0 k (by omega), if_neg (fun q => absurd q.1 (by decide))]; exact bv_wa0 lv x k (by omega)
def bv_waN (lv : Nat → Int32) (S x : Int32) : Nat → Nat
  | 0 => 0
  | w + 1 => if bv_has S (nI w) = true ∧ lv w = x then bv_waN lv S x w ||| 2 ^ w else bv_waN lv S x w
theorem bv_wa_nI (lv : Nat → Int32) (S x : Int32) : ∀ k, k ≤ 16 → bv_wa lv S x k = nI (bv_waN lv S x k) ∧ bv_waN lv S x k < 2 ^ k
  | 0, _ => ⟨rfl, Nat.one_pos⟩
  | k + 1, hk => by
    obtain ⟨h1, h2⟩ := bv_wa_nI lv S x k (by omega)
    have h3 : 2 ^ k < 2 ^ (k + 1) := Nat.pow_lt_pow_right (by decide) (Nat.lt_succ_self k)
    rw [bv_wa, bv_waN]
    split
    · exact ⟨by rw [h1]; exact bv_obit (by omega), Nat.or_lt_two_pow (Nat.lt_trans h2 h3) h3⟩
    · exact ⟨h1, Nat.lt_trans h2 h3⟩
theorem bv_wa16 (lv : Nat → Int32) (S x : Int32) : bv_wa lv S x 16 &&& 65535 = bv_wa lv S x 16 := by
  obtain ⟨h1, h2⟩ := bv_wa_nI lv S x 16 (Nat.le_refl _)
  rw [h1]; exact bv_nI16 h2
theorem bv_max_l (x y : Int32) : x ≤ bv_max x y := by
  unfold bv_max; split
  · exact Int32.le_of_lt (by assumption)
  · exact Int32.le_refl _
theorem bv_gr_nn (bs br : Nat → Int32) (w : Int32) : ∀ k, 0 ≤ bv_gr bs br w k
  | 0 => Int32.le_refl _
  | k + 1 => by
    rw [bv_gr]; split
    · exact bv_gr_nn bs br w k
    · exact Int32.le_trans (bv_gr_nn bs br w k) (bv_max_l _ _)
theorem bv_gr_le {bs br : Nat → Int32} {w : Int32} : ∀ k, (∀ j, j < k → br j ≤ 9) → bv_gr bs br w k ≤ 9
  | 0, _ => by show (0 : Int32) ≤ 9; decide
  | k + 1, h => by
    have h1 := bv_gr_le k (fun j hj => h j (by omega)) (bs := bs) (br := br) (w := w)
    rw [bv_gr]; split
    · exact h1
    · unfold bv_max; split
      · exact h k (Nat.lt_succ_self _)
      · exact h1
theorem bv_sh_n0 {lv : Nat → Int32} {S d : Int32} {k : Nat} : upd (bv_sh lv S d k) k (lv k) = bv_sh lv S d k := by
  funext j
  show (if j = k then _ else _) = _
  by_cases e : j = k
  · subst e; rw [if_pos rfl]; exact bv_sh_at.symm
  · rw [if_neg e]

set_option maxHeartbeats 4000000 in
set_option maxRecDepth 100000 in
theorem m_X4_least (l : Launch) (G : va_G) (cI : ClassId) (y yp yb yr yl : Nat) (th h9 s9 : Int32) (lv : Nat → Int32) (S : Int32) : Met l yX4_least wsX4_least ({ frames := 1, cells := 0, slots := 0, locals := 21 }) (bv_P [.ref y, .int S] G cI (fun H => va_P G vwCl [(y, .inr (4, [.int th, .int h9, .ref yp, .int s9, .ref yb, .ref yr, .ref yl])), (yl, .inl (cI, 16, .inl lv))] H)) (vp_Si (fun r9 : Int32 => r9 = (bv_ls lv S 16))) 0 0 (fun _ => False) := by
  refine Met.ofW (cc := cX4_least) (maxL := 4) (ret := (some .int)) (by decide) rfl ?_
  intro p e s m args below meth c s₁ B hml hv
  obtain ⟨rfl, hP, hE⟩ := hv
  have hx := B.exec
  have hb := B.bytes
  have hr := B.returns
  have hts := atoms_spec (ws := wsX4_least) B.pre
  have hown : s.vm.findClass RX4 = some m.cls := findClass_of_methodNamed B.named
  have hlocks := B.notSynchronized
  have hK := hE.1
  have hw0 := hts (.constant RX4 102 2147483647) (List.mem_of_getElem? (i := 1) rfl)
  have hw1 := hts (.static yX4_has) (List.mem_of_getElem? (i := 8) rfl)
  have hw2 := hts (.fieldLink RX4 19 "BeliefReviserModel" "levels" "[I") (List.mem_of_getElem? (i := 2) rfl)
  have hw3 : ∀ w ∈ u_ws RX4 TX4 7, w ∈ wsX4_least := by decide +kernel
  have hw4 := hts (.methodLink RX4 89 Lib.Math.min.name) (List.mem_of_getElem? (i := 3) rfl)
  have hw5 := hts (.static Lib.Math.min.name) (List.mem_of_getElem? (i := 4) rfl)
  have hw6 := hts (.initialized "java/lang/Math") (List.mem_of_getElem? (i := 5) rfl)
  have hw7 := hts (.code Lib.Math.min.name Lib.Math.min.code 2 (some .int)) (List.mem_of_getElem? (i := 6) rfl)
  have hP : va_P G vwCl [(y, .inr (4, [.int th, .int h9, .ref yp, .int s9, .ref yb, .ref yr, .ref yl])), (yl, .inl (cI, 16, .inl lv))] s.heap := hP
  have hl := lv_entry ([.ref y, .int S]) (n := 4) (Nat.le_of_ble_eq_true rfl)
  rw [lg_entry_eq]
  generalize (lg_sl ([.ref y, .int S]) ++ List.replicate (4 - (lg_sl ([.ref y, .int S])).length) Slot.unset).toArray = ls at hl ⊢
  have hl : lv_has ls 4 [(0, .ref y), (1, .int S)] := hl
  refine lv_ldc (pc := 0) hx hb hown hw0 dX4_least_0 ?_
  refine lv_istore_n (pc := 2) (lv' := [(2, .int 2147483647), (0, .ref y), (1, .int S)]) hx hb dX4_least_2 rfl hl (by decide) rfl (fun ls hl => ?_)
  refine lv_iconst (pc := 3) (v := 0) hx hb dX4_least_3 (by decide) ?_
  refine lv_istore_n (pc := 4) (lv' := [(3, .int 0), (2, .int 2147483647), (0, .ref y), (1, .int S)]) hx hb dX4_least_4 rfl hl (by decide) rfl (fun ls hl => ?_)
  have loop_5 : ∀ (fu9 : Nat) (k : Nat) (a : Int32), 16 - k < fu9 → (k ≤ 16) → (a = bv_ls lv S k) → ∀ (ls : Array Slot), lv_has ls 4 [(3, .int (nI k)), (2, .int a), (0, .ref y), (1, .int S)] → W p l e (headSpec wsX4_least ({ frames := 1, cells := 0, slots := 0, locals := 21 })).room s m ([.ref y, .int S] : List Value).toArray below meth c s.heap [] 0 0 (MQ below (vp_Si (fun r9 : Int32 => r9 = (bv_ls lv S 16))) ([.ref y, .int S] : List Value).toArray s 0 0 (fun _ => False)) (F0 m 5 ls []) := by
    intro fu9
    induction fu9 with
    | zero => intro k a hfu; exact absurd hfu (Nat.not_lt_zero _)
    | succ fu9 ih =>
      intro k a hfu hk hi ls hl
      refine lv_iload_n (pc := 5) hx hb dX4_least_5 rfl (lv_at hl 0 rfl) ?_
      refine lv_bipush (pc := 6) (v := 16) hx hb dX4_least_6 (by decide) ?_
      refine lv_icmp_ge (pc := 8) (tgt := 36) hx hb dX4_least_8 (by decide) (fun c8_1 => ?_) (fun c8_1 => ?_)
      · have hkn : 16 = k := by
          by_cases h : k < 16
          · exact absurd (show nI 16 ≤ nI k from c8_1) (nI_ge h (by omega))
          · omega
        subst hkn
        refine lv_iload_n (pc := 36) hx hb dX4_least_36 rfl (lv_at hl 1 rfl) ?_
        exact W.iret (pc := 37) (v := a) hx hb hr (fun T8 hT8 hW8 => ⟨a, rfl, hi, hT8⟩) (fun _ h => nomatch h) dX4_least_37
      · have hkn : k < 16 := by
          by_cases h : k < 16
          · exact h
          · exact absurd (show nI 16 ≤ nI k from nI_le (by omega) (by omega)) c8_1
        refine lv_iload_n (pc := 11) hx hb dX4_least_11 rfl (lv_at hl 3 rfl) ?_
        refine lv_iload_n (pc := 12) hx hb dX4_least_12 rfl (lv_at hl 0 rfl) ?_
        have hPc := hP.sub (ws' := []) [] rfl
        refine bv_cSi (pc := 13) (E' := (bv_b (bv_has S (nI k)))) (va_runS (As := [.int S, .int (nI k)]) (rest := []) ⟨hx, hb, hml, hown, hts⟩ (m_X4_has l G cI S (nI k) ) (va_cwS 2 hts gX4_least_X4_has rfl rfl rfl (by decide +kernel) ⟨Nat.le_of_ble_eq_true rfl, Nat.le_of_ble_eq_true rfl⟩) (bv_pS hE hPc) rfl rfl hl.1 rfl (lv_room (Nat.le_of_ble_eq_true rfl)) dX4_least_13 ⟨Nat.le_of_ble_eq_true rfl, Nat.le_of_ble_eq_true rfl⟩) rfl ?_
        refine lv_if_eq (pc := 16) (tgt := 30) hx hb dX4_least_16 (by decide) (fun c16_4 => ?_) (fun c16_4 => ?_)
        · have h2 := bv_b0.mp c16_4
          refine lv_iinc (pc := 30) (v := (nI (k + 1))) (lv' := [(3, .int (nI (k + 1))), (2, .int a), (0, .ref y), (1, .int S)]) hx hb dX4_least_30 hl (k := 0) rfl (nI_1 k) (by decide) rfl (fun ls hl => ?_)
          refine lv_goto (pc := 33) (tgt := 5) hx hb dX4_least_33 (by decide) ?_
          exact ih (k + 1) a (by omega) (by omega) (by rw [bv_ls, if_neg (by rw [h2]; decide), hi]) ls (lv_sub hl [0, 1, 2, 3] rfl)
        · have h2 := bv_b1.mp c16_4
          refine lv_iload_n (pc := 19) hx hb dX4_least_19 rfl (lv_at hl 1 rfl) ?_
          refine lv_aload_n (pc := 20) hx hb dX4_least_20 rfl (lv_at hl 2 rfl) ?_
          refine va_get (pc := 21) (D := G) (ci := 4) (v := .ref yl) (C := RX4) (T := TX4) (N := 7) hx hb hts hw3 hown hK hP 0 rfl rfl 6 (by decide) hw2 (fun _ h9 => h9) rfl dX4_least_21 ?_
          refine lv_iload_n (pc := 24) hx hb dX4_least_24 rfl (lv_at hl 0 rfl) ?_
          refine bv_ial (pc := 25) hx hb hK hP 1 0 rfl rfl (by omega) (by omega) dX4_least_25 ?_
          refine va_mmin (pc := 26) hx hb (hml.trans hl.1.symm) hown hw4 hw5 hw6 hw7 (Nat.le_of_ble_eq_true rfl) (Nat.le_of_ble_eq_true rfl) (Nat.le_of_ble_eq_true rfl) (Nat.le_of_ble_eq_true rfl) dX4_least_26 ?_
          rw [show (if (lv k) < a then (lv k) else a) = (bv_min a (lv k)) from rfl]
          refine lv_istore_n (pc := 29) (lv' := [(2, .int (bv_min a (lv k))), (3, .int (nI k)), (0, .ref y), (1, .int S)]) hx hb dX4_least_29 rfl hl (by decide) rfl (fun ls hl => ?_)
          refine lv_iinc (pc := 30) (v := (nI (k + 1))) (lv' := [(3, .int (nI (k + 1))), (2, .int (bv_min a (lv k))), (0, .ref y), (1, .int S)]) hx hb dX4_least_30 hl (k := 1) rfl (nI_1 k) (by decide) rfl (fun ls hl => ?_)
          refine lv_goto (pc := 33) (tgt := 5) hx hb dX4_least_33 (by decide) ?_
          exact ih (k + 1) (bv_min a (lv k)) (by omega) (by omega) (by rw [bv_ls, if_pos h2, hi]) ls (lv_sub hl [0, 1, 2, 3] rfl)
  exact loop_5 (16 - 0 + 1) 0 2147483647 (Nat.lt_succ_self _) (Nat.zero_le _) rfl ls (lv_sub hl [0, 1, 2, 3] rfl)
set_option maxHeartbeats 4000000 in
set_option maxRecDepth 100000 in
theorem m_X4_withLevel (l : Launch) (G : va_G) (cI : ClassId) (y yp yb yr yl : Nat) (th h9 s9 : Int32) (lv : Nat → Int32) (S x : Int32) : Met l yX4_withLevel wsX4_withLevel ({ frames := 1, cells := 0, slots := 0, locals := 21 }) (bv_P [.ref y, .int S, .int x] G cI (fun H => va_P G vwCl [(y, .inr (4, [.int th, .int h9, .ref yp, .int s9, .ref yb, .ref yr, .ref yl])), (yl, .inl (cI, 16, .inl lv))] H)) (vp_Si (fun r9 : Int32 => r9 = (bv_wa lv S x 16))) 0 0 (fun _ => False) := by
  refine Met.ofW (cc := cX4_withLevel) (maxL := 5) (ret := (some .int)) (by decide) rfl ?_
  intro p e s m args below meth c s₁ B hml hv
  obtain ⟨rfl, hP, hE⟩ := hv
  have hx := B.exec
  have hb := B.bytes
  have hr := B.returns
  have hts := atoms_spec (ws := wsX4_withLevel) B.pre
  have hown : s.vm.findClass RX4 = some m.cls := findClass_of_methodNamed B.named
  have hlocks := B.notSynchronized
  have hK := hE.1
  have hw0 := hts (.static yX4_has) (List.mem_of_getElem? (i := 3) rfl)
  have hw1 := hts (.fieldLink RX4 19 "BeliefReviserModel" "levels" "[I") (List.mem_of_getElem? (i := 1) rfl)
  have hw2 : ∀ w ∈ u_ws RX4 TX4 7, w ∈ wsX4_withLevel := by decide +kernel
  have hP : va_P G vwCl [(y, .inr (4, [.int th, .int h9, .ref yp, .int s9, .ref yb, .ref yr, .ref yl])), (yl, .inl (cI, 16, .inl lv))] s.heap := hP
  have hl := lv_entry ([.ref y, .int S, .int x]) (n := 5) (Nat.le_of_ble_eq_true rfl)
  rw [lg_entry_eq]
  generalize (lg_sl ([.ref y, .int S, .int x]) ++ List.replicate (5 - (lg_sl ([.ref y, .int S, .int x])).length) Slot.unset).toArray = ls at hl ⊢
  have hl : lv_has ls 5 [(0, .ref y), (1, .int S), (2, .int x)] := hl
  refine lv_iconst (pc := 0) (v := 0) hx hb dX4_withLevel_0 (by decide) ?_
  refine lv_istore_n (pc := 1) (lv' := [(3, .int 0), (0, .ref y), (1, .int S), (2, .int x)]) hx hb dX4_withLevel_1 rfl hl (by decide) rfl (fun ls hl => ?_)
  refine lv_iconst (pc := 2) (v := 0) hx hb dX4_withLevel_2 (by decide) ?_
  refine lv_istore (pc := 3) (lv' := [(4, .int 0), (3, .int 0), (0, .ref y), (1, .int S), (2, .int x)]) hx hb dX4_withLevel_3 hl (by decide) rfl (fun ls hl => ?_)
  have loop_5 : ∀ (fu9 : Nat) (k : Nat) (a : Int32), 16 - k < fu9 → (k ≤ 16) → (a = bv_wa lv S x k) → ∀ (ls : Array Slot), lv_has ls 5 [(4, .int (nI k)), (3, .int a), (0, .ref y), (1, .int S), (2, .int x)] → W p l e (headSpec wsX4_withLevel ({ frames := 1, cells := 0, slots := 0, locals := 21 })).room s m ([.ref y, .int S, .int x] : List Value).toArray below meth c s.heap [] 0 0 (MQ below (vp_Si (fun r9 : Int32 => r9 = (bv_wa lv S x 16))) ([.ref y, .int S, .int x] : List Value).toArray s 0 0 (fun _ => False)) (F0 m 5 ls []) := by
    intro fu9
    induction fu9 with
    | zero => intro k a hfu; exact absurd hfu (Nat.not_lt_zero _)
    | succ fu9 ih =>
      intro k a hfu hk hi ls hl
      refine lv_iload (pc := 5) hx hb dX4_withLevel_5 (lv_at hl 0 rfl) ?_
      refine lv_bipush (pc := 7) (v := 16) hx hb dX4_withLevel_7 (by decide) ?_
      refine lv_icmp_ge (pc := 9) (tgt := 45) hx hb dX4_withLevel_9 (by decide) (fun c9_1 => ?_) (fun c9_1 => ?_)
      · have hkn : 16 = k := by
          by_cases h : k < 16
          · exact absurd (show nI 16 ≤ nI k from c9_1) (nI_ge h (by omega))
          · omega
        subst hkn
        refine lv_iload_n (pc := 45) hx hb dX4_withLevel_45 rfl (lv_at hl 1 rfl) ?_
        exact W.iret (pc := 46) (v := a) hx hb hr (fun T8 hT8 hW8 => ⟨a, rfl, hi, hT8⟩) (fun _ h => nomatch h) dX4_withLevel_46
      · have hkn : k < 16 := by
          by_cases h : k < 16
          · exact h
          · exact absurd (show nI 16 ≤ nI k from nI_le (by omega) (by omega)) c9_1
        refine lv_iload_n (pc := 12) hx hb dX4_withLevel_12 rfl (lv_at hl 3 rfl) ?_
        refine lv_iload (pc := 13) hx hb dX4_withLevel_13 (lv_at hl 0 rfl) ?_
        have hPc := hP.sub (ws' := []) [] rfl
        refine bv_cSi (pc := 15) (E' := (bv_b (bv_has S (nI k)))) (va_runS (As := [.int S, .int (nI k)]) (rest := []) ⟨hx, hb, hml, hown, hts⟩ (m_X4_has l G cI S (nI k) ) (va_cwS 2 hts gX4_withLevel_X4_has rfl rfl rfl (by decide +kernel) ⟨Nat.le_of_ble_eq_true rfl, Nat.le_of_ble_eq_true rfl⟩) (bv_pS hE hPc) rfl rfl hl.1 rfl (lv_room (Nat.le_of_ble_eq_true rfl)) dX4_withLevel_15 ⟨Nat.le_of_ble_eq_true rfl, Nat.le_of_ble_eq_true rfl⟩) rfl ?_
        refine lv_if_eq (pc := 18) (tgt := 39) hx hb dX4_withLevel_18 (by decide) (fun c18_4 => ?_) (fun c18_4 => ?_)
        · have h2 := bv_b0.mp c18_4
          refine lv_iinc (pc := 39) (v := (nI (k + 1))) (lv' := [(4, .int (nI (k + 1))), (3, .int a), (0, .ref y), (1, .int S), (2, .int x)]) hx hb dX4_withLevel_39 hl (k := 0) rfl (nI_1 k) (by decide) rfl (fun ls hl => ?_)
          refine lv_goto (pc := 42) (tgt := 5) hx hb dX4_withLevel_42 (by decide) ?_
          exact ih (k + 1) a (by omega) (by omega) (by rw [bv_wa, ← hi, if_neg (fun q => by rw [h2] at q; exact absurd q.1 (by decide))]) ls (lv_sub hl [0, 1, 2, 3, 4] rfl)
        · have h2 := bv_b1.mp c18_4
          refine lv_aload_n (pc := 21) hx hb dX4_withLevel_21 rfl (lv_at hl 2 rfl) ?_
          refine va_get (pc := 22) (D := G) (ci := 4) (v := .ref yl) (C := RX4) (T := TX4) (N := 7) hx hb hts hw2 hown hK hP 0 rfl rfl 6 (by decide) hw1 (fun _ h9 => h9) rfl dX4_withLevel_22 ?_
          refine lv_iload (pc := 25) hx hb dX4_withLevel_25 (lv_at hl 0 rfl) ?_
          refine bv_ial (pc := 27) hx hb hK hP 1 0 rfl rfl (by omega) (by omega) dX4_withLevel_27 ?_
          refine lv_iload_n (pc := 28) hx hb dX4_withLevel_28 rfl (lv_at hl 4 rfl) ?_
          refine lv_icmp_ne (pc := 29) (tgt := 39) hx hb dX4_withLevel_29 (by decide) (fun c29_5 => ?_) (fun c29_5 => ?_)
          · have h3 := c29_5
            refine lv_iinc (pc := 39) (v := (nI (k + 1))) (lv' := [(4, .int (nI (k + 1))), (3, .int a), (0, .ref y), (1, .int S), (2, .int x)]) hx hb dX4_withLevel_39 hl (k := 0) rfl (nI_1 k) (by decide) rfl (fun ls hl => ?_)
            refine lv_goto (pc := 42) (tgt := 5) hx hb dX4_withLevel_42 (by decide) ?_
            exact ih (k + 1) a (by omega) (by omega) (by rw [bv_wa, ← hi, if_neg (fun q => h3 q.2)]) ls (lv_sub hl [0, 1, 2, 3, 4] rfl)
          · have h3 := c29_5
            refine lv_iload_n (pc := 32) hx hb dX4_withLevel_32 rfl (lv_at hl 1 rfl) ?_
            refine lv_iconst (pc := 33) (v := 1) hx hb dX4_withLevel_33 (by decide) ?_
            refine lv_iload (pc := 34) hx hb dX4_withLevel_34 (lv_at hl 0 rfl) ?_
            refine lv_ishl (pc := 36) hx hb dX4_withLevel_36 ?_
            refine lv_ior (pc := 37) hx hb dX4_withLevel_37 ?_
            refine lv_istore_n (pc := 38) (lv' := [(3, .int (a ||| (1 <<< ((nI k) &&& 31)))), (4, .int (nI k)), (0, .ref y), (1, .int S), (2, .int x)]) hx hb dX4_withLevel_38 rfl hl (by decide) rfl (fun ls hl => ?_)
            refine lv_iinc (pc := 39) (v := (nI (k + 1))) (lv' := [(4, .int (nI (k + 1))), (3, .int (a ||| (1 <<< ((nI k) &&& 31)))), (0, .ref y), (1, .int S), (2, .int x)]) hx hb dX4_withLevel_39 hl (k := 1) rfl (nI_1 k) (by decide) rfl (fun ls hl => ?_)
            refine lv_goto (pc := 42) (tgt := 5) hx hb dX4_withLevel_42 (by decide) ?_
            exact ih (k + 1) (a ||| (1 <<< ((nI k) &&& 31))) (by omega) (by omega) (by rw [bv_wa, ← hi, if_pos ⟨h2, h3⟩]) ls (lv_sub hl [0, 1, 2, 3, 4] rfl)
  exact loop_5 (16 - 0 + 1) 0 0 (Nat.lt_succ_self _) (Nat.zero_le _) rfl ls (lv_sub hl [0, 1, 2, 3, 4] rfl)
set_option maxHeartbeats 4000000 in
set_option maxRecDepth 100000 in
theorem m_X4_possibleNow (l : Launch) (G : va_G) (cI : ClassId) (y yp yb yr yl : Nat) (th h9 s9 : Int32) (lv : Nat → Int32) : Met l yX4_possibleNow wsX4_possibleNow ({ frames := 2, cells := 0, slots := 0, locals := 45 }) (bv_P [.ref y] G cI (fun H => va_P G vwCl [(y, .inr (4, [.int th, .int h9, .ref yp, .int s9, .ref yb, .ref yr, .ref yl])), (yl, .inl (cI, 16, .inl lv))] H)) (vp_Si (fun r9 : Int32 => r9 = (bv_open lv))) 0 0 (fun _ => False) := by
  refine Met.ofW (cc := cX4_possibleNow) (maxL := 1) (ret := (some .int)) (by decide) rfl ?_
  intro p e s m args below meth c s₁ B hml hv
  obtain ⟨rfl, hP, hE⟩ := hv
  have hx := B.exec
  have hb := B.bytes
  have hr := B.returns
  have hts := atoms_spec (ws := wsX4_possibleNow) B.pre
  have hown : s.vm.findClass RX4 = some m.cls := findClass_of_methodNamed B.named
  have hlocks := B.notSynchronized
  have hK := hE.1
  have hw0 := hts (.constant RX4 51 65535) (List.mem_of_getElem? (i := 1) rfl)
  have hP : va_P G vwCl [(y, .inr (4, [.int th, .int h9, .ref yp, .int s9, .ref yb, .ref yr, .ref yl])), (yl, .inl (cI, 16, .inl lv))] s.heap := hP
  have hl := lv_entry ([.ref y]) (n := 1) (Nat.le_of_ble_eq_true rfl)
  rw [lg_entry_eq]
  generalize (lg_sl ([.ref y]) ++ List.replicate (1 - (lg_sl ([.ref y])).length) Slot.unset).toArray = ls at hl ⊢
  have hl : lv_has ls 1 [(0, .ref y)] := hl
  refine lv_aload_n (pc := 0) hx hb dX4_possibleNow_0 rfl (lv_at hl 0 rfl) ?_
  refine lv_ldc (pc := 1) hx hb hown hw0 dX4_possibleNow_1 ?_
  refine lv_iconst (pc := 3) (v := 0) hx hb dX4_possibleNow_3 (by decide) ?_
  have hPc := hP.sub (ws' := [(y, .inr (4, [.int th, .int h9, .ref yp, .int s9, .ref yb, .ref yr, .ref yl])), (yl, .inl (cI, 16, .inl lv))]) [0, 1] rfl
  refine bv_cSi (pc := 4) (E' := (bv_wa lv 65535 0 16)) (va_runV (As := [.int 65535, .int 0]) (rest := []) ⟨hx, hb, hml, hown, hts⟩ (m_X4_withLevel l G cI y yp yb yr yl th h9 s9 lv 65535 0 ) (cwV 2 hts gX4_possibleNow_X4_withLevel rfl rfl rfl (by decide +kernel) ⟨Nat.le_of_ble_eq_true rfl, Nat.le_of_ble_eq_true rfl⟩) (bv_pV hE hPc (va_recv hK hP (ci := 4) (q0 := 0) rfl rfl)) rfl rfl hl.1 rfl (lv_room (Nat.le_of_ble_eq_true rfl)) dX4_possibleNow_4 ⟨Nat.le_of_ble_eq_true rfl, Nat.le_of_ble_eq_true rfl⟩) rfl ?_
  exact W.iret (pc := 7) (v := (bv_wa lv 65535 0 16)) hx hb hr (fun T8 hT8 hW8 => ⟨(bv_wa lv 65535 0 16), rfl, rfl, hT8⟩) (fun _ h => nomatch h) dX4_possibleNow_7
set_option maxHeartbeats 4000000 in
set_option maxRecDepth 100000 in
theorem m_X4_add_ (l : Launch) (G : va_G) (cI : ClassId) (sz : Nat) (y yp yb yr yl : Nat) (th h9 s9 : Int32) (lv : Nat → Int32) (S d : Int32) : Met l yX4_add_ wsX4_add_ ({ frames := 1, cells := 0, slots := 0, locals := 21 }) (bv_P [.ref y, .int S, .int d] G cI (fun H => H.size = sz ∧ va_P G vwCl [(y, .inr (4, [.int th, .int h9, .ref yp, .int s9, .ref yb, .ref yr, .ref yl])), (yl, .inl (cI, 16, .inl lv))] H ∧ va_D (fun _ => True) [(y, .inr (4, [.int th, .int h9, .ref yp, .int s9, .ref yb, .ref yr, .ref yl])), (yl, .inl (cI, 16, .inl lv))])) (va_Qv (fun _ : Unit => True) (fun (_ : Unit) (T9 : State) => va_P G vwCl [(y, .inr (4, [.int th, .int h9, .ref yp, .int s9, .ref yb, .ref yr, .ref yl])), (yl, .inl (cI, 16, .inl (bv_sh lv S d 16)))] T9.heap) (va_A [(y, .inr (4, [.int th, .int h9, .ref yp, .int s9, .ref yb, .ref yr, .ref yl])), (yl, .inl (cI, 16, .inl lv))] sz)) 0 0 (va_A [(y, .inr (4, [.int th, .int h9, .ref yp, .int s9, .ref yb, .ref yr, .ref yl])), (yl, .inl (cI, 16, .inl lv))] sz) := by
  refine Met.ofW (cc := cX4_add_) (maxL := 4) (ret := none) (by decide) rfl ?_
  intro p e s m args below meth c s₁ B hml hv
  obtain ⟨rfl, ⟨hsz, hP, hD0⟩, hE⟩ := hv
  have hx := B.exec
  have hb := B.bytes
  have hr := B.returns
  have hts := atoms_spec (ws := wsX4_add_) B.pre
  have hown : s.vm.findClass RX4 = some m.cls := findClass_of_methodNamed B.named
  have hlocks := B.notSynchronized
  have hK := hE.1
  have hw0 := hts (.fieldLink RX4 19 "BeliefReviserModel" "levels" "[I") (List.mem_of_getElem? (i := 1) rfl)
  have hw1 : ∀ w ∈ u_ws RX4 TX4 7, w ∈ wsX4_add_ := by decide +kernel
  have hw2 := hts (.static yX4_has) (List.mem_of_getElem? (i := 3) rfl)
  subst hsz
  have hD := hD0.self (sz := s.heap.size)
  generalize hAe : va_A [(y, .inr (4, [.int th, .int h9, .ref yp, .int s9, .ref yb, .ref yr, .ref yl])), (yl, .inl (cI, 16, .inl lv))] s.heap.size = A at hD ⊢
  have hA : ∀ q : Nat, s.heap.size ≤ q → A q := fun q h => by rw [← hAe]; exact Or.inr h
  have hS : va_S A s.heap s.heap [] := va_S.rf
  have hP : va_P G vwCl [(y, .inr (4, [.int th, .int h9, .ref yp, .int s9, .ref yb, .ref yr, .ref yl])), (yl, .inl (cI, 16, .inl lv))] s.heap := hP
  have hl := lv_entry ([.ref y, .int S, .int d]) (n := 4) (Nat.le_of_ble_eq_true rfl)
  rw [lg_entry_eq]
  generalize (lg_sl ([.ref y, .int S, .int d]) ++ List.replicate (4 - (lg_sl ([.ref y, .int S, .int d])).length) Slot.unset).toArray = ls at hl ⊢
  have hl : lv_has ls 4 [(0, .ref y), (1, .int S), (2, .int d)] := hl
  refine lv_iconst (pc := 0) (v := 0) hx hb dX4_add__0 (by decide) ?_
  refine lv_istore_n (pc := 1) (lv' := [(3, .int 0), (0, .ref y), (1, .int S), (2, .int d)]) hx hb dX4_add__1 rfl hl (by decide) rfl (fun ls hl => ?_)
  have loop_2 : ∀ (fu9 : Nat) (k : Nat), 16 - k < fu9 → (k ≤ 16) → ∀ (H : Heap) (locs : List Loc), va_P G vwCl [(y, .inr (4, [.int th, .int h9, .ref yp, .int s9, .ref yb, .ref yr, .ref yl])), (yl, .inl (cI, 16, .inl (bv_sh lv S d k)))] H → va_D A [(y, .inr (4, [.int th, .int h9, .ref yp, .int s9, .ref yb, .ref yr, .ref yl])), (yl, .inl (cI, 16, .inl (bv_sh lv S d k)))] → va_S A s.heap H locs → ∀ (ls : Array Slot), lv_has ls 4 [(3, .int (nI k)), (0, .ref y), (1, .int S), (2, .int d)] → W p l e (headSpec wsX4_add_ ({ frames := 1, cells := 0, slots := 0, locals := 21 })).room s m ([.ref y, .int S, .int d] : List Value).toArray below meth c H locs 0 0 (MQ below (va_Qv (fun _ : Unit => True) (fun (_ : Unit) (T9 : State) => va_P G vwCl [(y, .inr (4, [.int th, .int h9, .ref yp, .int s9, .ref yb, .ref yr, .ref yl])), (yl, .inl (cI, 16, .inl (bv_sh lv S d 16)))] T9.heap) A) ([.ref y, .int S, .int d] : List Value).toArray s 0 0 A) (F0 m 2 ls []) := by
    intro fu9
    induction fu9 with
    | zero => intro k hfu; exact absurd hfu (Nat.not_lt_zero _)
    | succ fu9 ih =>
      intro k hfu hk H locs hP hD hS ls hl
      refine lv_iload_n (pc := 2) hx hb dX4_add__2 rfl (lv_at hl 0 rfl) ?_
      refine lv_bipush (pc := 3) (v := 16) hx hb dX4_add__3 (by decide) ?_
      refine lv_icmp_ge (pc := 5) (tgt := 36) hx hb dX4_add__5 (by decide) (fun c5_1 => ?_) (fun c5_1 => ?_)
      · have hkn : 16 = k := by
          by_cases h : k < 16
          · exact absurd (show nI 16 ≤ nI k from c5_1) (nI_ge h (by omega))
          · omega
        subst hkn
        have hP9 : va_P G vwCl [(y, .inr (4, [.int th, .int h9, .ref yp, .int s9, .ref yb, .ref yr, .ref yl])), (yl, .inl (cI, 16, .inl (bv_sh lv S d 16)))] H := hP
        exact W.vret (pc := 36) hx hb hr (fun T8 hT8 hW8 => ⟨⟨(), rfl, trivial, bv_hP hT8 hP9⟩, hS.F hT8⟩) hS.2.2 dX4_add__36
      · have hkn : k < 16 := by
          by_cases h : k < 16
          · exact h
          · exact absurd (show nI 16 ≤ nI k from nI_le (by omega) (by omega)) c5_1
        refine lv_aload_n (pc := 8) hx hb dX4_add__8 rfl (lv_at hl 1 rfl) ?_
        refine va_get (pc := 9) (D := G) (ci := 4) (v := .ref yl) (C := RX4) (T := TX4) (N := 7) hx hb hts hw1 hown hK hP 0 rfl rfl 6 (by decide) hw0 (fun _ h9 => h9) rfl dX4_add__9 ?_
        refine lv_iload_n (pc := 12) hx hb dX4_add__12 rfl (lv_at hl 0 rfl) ?_
        refine lv_dup2_11 (pc := 13) hx hb dX4_add__13 rfl rfl ?_
        refine va_iald (pc := 14) hx hb hK hP 1 0 rfl rfl (vp_in_nI (by omega) (by decide)) dX4_add__14 ?_
        rw [show ((bv_sh lv S d k) (nI k).toNatClampNeg) = (lv k) from by rw [nI_clamp (by omega)]; exact bv_sh_at]
        refine lv_iload_n (pc := 15) hx hb dX4_add__15 rfl (lv_at hl 2 rfl) ?_
        refine lv_iload_n (pc := 16) hx hb dX4_add__16 rfl (lv_at hl 0 rfl) ?_
        have hPc := hP.sub (ws' := []) [] rfl
        refine bv_cSi (pc := 17) (E' := (bv_b (bv_has S (nI k)))) (va_runS (As := [.int S, .int (nI k)]) (rest := [.int (lv k), .int (nI k), .ref yl]) ⟨hx, hb, hml, hown, hts⟩ (m_X4_has l G cI S (nI k) ) (va_cwS 2 hts gX4_add__X4_has rfl rfl rfl (by decide +kernel) ⟨Nat.le_of_ble_eq_true rfl, Nat.le_of_ble_eq_true rfl⟩) (bv_pS hE hPc) rfl rfl hl.1 rfl (lv_room (Nat.le_of_ble_eq_true rfl)) dX4_add__17 ⟨Nat.le_of_ble_eq_true rfl, Nat.le_of_ble_eq_true rfl⟩) rfl ?_
        refine lv_if_eq (pc := 20) (tgt := 27) hx hb dX4_add__20 (by decide) (fun c20_4 => ?_) (fun c20_4 => ?_)
        · have h2 := bv_b0.mp c20_4
          refine lv_iconst (pc := 27) (v := 0) hx hb dX4_add__27 (by decide) ?_
          refine lv_iadd (pc := 28) hx hb dX4_add__28 ?_
          refine va_iast (pc := 29) hx hb hK hP hD hS 1 0 rfl rfl (vp_in_nI (by omega) (by decide)) dX4_add__29 (fun H locs hP hD hS => ?_)
          have hP : va_P G vwCl [(y, .inr (4, [.int th, .int h9, .ref yp, .int s9, .ref yb, .ref yr, .ref yl])), (yl, .inl (cI, 16, .inl (upd (bv_sh lv S d k) (nI k).toNatClampNeg ((lv k) + 0))))] H := hP
          have hD : va_D A [(y, .inr (4, [.int th, .int h9, .ref yp, .int s9, .ref yb, .ref yr, .ref yl])), (yl, .inl (cI, 16, .inl (upd (bv_sh lv S d k) (nI k).toNatClampNeg ((lv k) + 0))))] := hD
          rw [show (upd (bv_sh lv S d k) (nI k).toNatClampNeg ((lv k) + 0)) = (bv_sh lv S d (k + 1)) from by rw [nI_clamp (by omega)]; rw [Int32.add_zero, bv_sh_n0]; exact bv_sh_n h2] at hP hD
          refine lv_iinc (pc := 30) (v := (nI (k + 1))) (lv' := [(3, .int (nI (k + 1))), (0, .ref y), (1, .int S), (2, .int d)]) hx hb dX4_add__30 hl (k := 0) rfl (nI_1 k) (by decide) rfl (fun ls hl => ?_)
          refine lv_goto (pc := 33) (tgt := 2) hx hb dX4_add__33 (by decide) ?_
          exact ih (k + 1) (by omega) (by omega) H _ hP hD hS ls (lv_sub hl [0, 1, 2, 3] rfl)
        · have h2 := bv_b1.mp c20_4
          refine lv_iload_n (pc := 23) hx hb dX4_add__23 rfl (lv_at hl 3 rfl) ?_
          refine lv_goto (pc := 24) (tgt := 28) hx hb dX4_add__24 (by decide) ?_
          refine lv_iadd (pc := 28) hx hb dX4_add__28 ?_
          refine va_iast (pc := 29) hx hb hK hP hD hS 1 0 rfl rfl (vp_in_nI (by omega) (by decide)) dX4_add__29 (fun H locs hP hD hS => ?_)
          have hP : va_P G vwCl [(y, .inr (4, [.int th, .int h9, .ref yp, .int s9, .ref yb, .ref yr, .ref yl])), (yl, .inl (cI, 16, .inl (upd (bv_sh lv S d k) (nI k).toNatClampNeg ((lv k) + d))))] H := hP
          have hD : va_D A [(y, .inr (4, [.int th, .int h9, .ref yp, .int s9, .ref yb, .ref yr, .ref yl])), (yl, .inl (cI, 16, .inl (upd (bv_sh lv S d k) (nI k).toNatClampNeg ((lv k) + d))))] := hD
          rw [show (upd (bv_sh lv S d k) (nI k).toNatClampNeg ((lv k) + d)) = (bv_sh lv S d (k + 1)) from by rw [nI_clamp (by omega)]; exact bv_sh_s h2] at hP hD
          refine lv_iinc (pc := 30) (v := (nI (k + 1))) (lv' := [(3, .int (nI (k + 1))), (0, .ref y), (1, .int S), (2, .int d)]) hx hb dX4_add__30 hl (k := 0) rfl (nI_1 k) (by decide) rfl (fun ls hl => ?_)
          refine lv_goto (pc := 33) (tgt := 2) hx hb dX4_add__33 (by decide) ?_
          exact ih (k + 1) (by omega) (by omega) H _ hP hD hS ls (lv_sub hl [0, 1, 2, 3] rfl)
  rw [← bv_sh_0 (lv := lv) (S := S) (d := d)] at hP hD
  exact loop_2 (16 - 0 + 1) 0 (Nat.lt_succ_self _) (Nat.zero_le _) s.heap _ hP hD hS ls (lv_sub hl [0, 1, 2, 3] rfl)
