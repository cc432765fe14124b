/-! Weights: numbers of base 16, and the reference's comparison rank by rank. -/
def bv_bt (t k : Nat) : Nat := if t.testBit k then 1 else 0
def bv_cr (br : Nat → Int32) (t r : Nat) : Nat → Nat
  | 0 => 0
  | k + 1 => if br k = nI r then bv_cr br t r k + bv_bt t k else bv_cr br t r k
theorem bv_bt_le (t k : Nat) : bv_bt t k ≤ 1 := by unfold bv_bt; split <;> omega
theorem bv_cr_le (br : Nat → Int32) (t r : Nat) : ∀ k, bv_cr br t r k ≤ k
  | 0 => Nat.le_refl _
  | k + 1 => by
    have h1 := bv_cr_le br t r k
    have h2 := bv_bt_le t k
    rw [bv_cr]; split <;> omega
def bv_WN (br : Nat → Int32) (t n : Nat) : Nat → Nat
  | 0 => 0
  | r + 1 => bv_WN br t n r + bv_cr br t (r + 1) n * 16 ^ (r + 1)
theorem bv_WN_lt (br : Nat → Int32) (t : Nat) {n : Nat} (hn : n ≤ 10) : ∀ r, bv_WN br t n r < 16 ^ (r + 1)
  | 0 => by show 0 < 16 ^ 1; decide
  | r + 1 => by
    have h1 := bv_WN_lt br t hn r
    have h2 := bv_cr_le br t (r + 1) n
    have h3 : bv_cr br t (r + 1) n * 16 ^ (r + 1) ≤ 10 * 16 ^ (r + 1) := Nat.mul_le_mul_right _ (Nat.le_trans h2 hn)
    rw [bv_WN, Nat.pow_succ 16 (r + 1)]
    omega
def bv_wtN (br : Nat → Int32) (t : Nat) : Nat → Nat
  | 0 => 0
  | k + 1 => if t.testBit k then bv_wtN br t k + 16 ^ (br k).toNatClampNeg else bv_wtN br t k
theorem bv_sh16 : ∀ r, r ≤ 9 → (1 : Int64) <<< (((4 : Int32) * nI r).toInt64 &&& 63) = lN (16 ^ r) := by decide +kernel
theorem bv_wt_N {br : Nat → Int32} {t : Nat} : ∀ k, (∀ j, j < k → ∃ r, 1 ≤ r ∧ r ≤ 9 ∧ br j = nI r) → bv_wt br t k = lN (bv_wtN br t k)
  | 0, _ => rfl
  | k + 1, h => by
    obtain ⟨r, h1, h2, h3⟩ := h k (Nat.lt_succ_self _)
    have ih := bv_wt_N k (fun j hj => h j (by omega)) (br := br) (t := t)
    rw [bv_wt, bv_wtN]
    split
    · rw [ih, h3, bv_sh16 r h2, nI_clamp (by omega)]
      exact (Int64.ofNat_add _ _).symm
    · exact ih
theorem bv_WN_s {br : Nat → Int32} {t k r : Nat} (h1 : 1 ≤ r) (h3 : br k = nI r) (hr : r ≤ 9) : ∀ R, R ≤ 9 → bv_WN br t (k + 1) R = bv_WN br t k R + (if t.testBit k = true ∧ r ≤ R then 16 ^ r else 0)
  | 0, _ => by
    rw [if_neg (fun q => by omega)]; rfl
  | R + 1, hR => by
    have ih := bv_WN_s h1 h3 hr R (by omega) (t := t)
    rw [bv_WN, bv_WN, ih, bv_cr]
    by_cases e : r = R + 1
    · rw [if_neg (show ¬ (t.testBit k = true ∧ r ≤ R) from fun q => by omega), if_pos (show br k = nI (R + 1) from by rw [h3, e]), Nat.add_mul]
      unfold bv_bt
      by_cases c : t.testBit k = true
      · rw [if_pos c, if_pos ⟨c, by omega⟩, e]; omega
      · rw [if_neg c, if_neg (fun q => c q.1)]; omega
    · rw [if_neg (fun q => e ((nI_eq (by omega) (by omega)).mp (h3.symm.trans q)))]
      by_cases c : t.testBit k = true ∧ r ≤ R
      · rw [if_pos c, if_pos ⟨c.1, by omega⟩]; omega
      · rw [if_neg c, if_neg (fun q => c ⟨q.1, by omega⟩)]; omega
theorem bv_wtN_WN {br : Nat → Int32} {t : Nat} : ∀ k, (∀ j, j < k → ∃ r, 1 ≤ r ∧ r ≤ 9 ∧ br j = nI r) → bv_wtN br t k = bv_WN br t k 9
  | 0, _ => by
    have : ∀ R, bv_WN br t 0 R = 0 := by
      intro R
      induction R with
      | zero => rfl
      | succ R ih => rw [bv_WN, ih, bv_cr]; omega
    rw [this]; rfl
  | k + 1, h => by
    obtain ⟨r, h1, h2, h3⟩ := h k (Nat.lt_succ_self _)
    have ih := bv_wtN_WN k (fun j hj => h j (by omega)) (br := br) (t := t)
    rw [bv_WN_s h1 h3 h2 9 (Nat.le_refl _), bv_wtN, ← ih, h3, nI_clamp (by omega)]
    by_cases c : t.testBit k = true
    · rw [if_pos c, if_pos ⟨c, h2⟩]
    · rw [if_neg c, if_neg (fun q => c q.1)]; rfl
theorem bv_heavy_W {br : Nat → Int32} {bn t b : Nat} (hn : bn ≤ 10) (hbr : ∀ j, j < bn → ∃ r, 1 ≤ r ∧ r ≤ 9 ∧ br j = nI r) : bv_heavy br bn t b = decide (bv_WN br b bn 9 < bv_WN br t bn 9) := by
  unfold bv_heavy
  rw [bv_wt_N bn hbr, bv_wt_N bn hbr, bv_wtN_WN bn hbr, bv_wtN_WN bn hbr]
  congr 1
  have h1 := bv_WN_lt br t hn 9
  have h2 := bv_WN_lt br b hn 9
  have h3 : 16 ^ (9 + 1) < 2 ^ 63 := by decide
  exact propext (pk_lLT (Nat.lt_trans h2 h3) (Nat.lt_trans h1 h3))
theorem bv_lex_eq {br : Nat → Int32} {bn t b z : Nat} (h1 : 1 ≤ z) (e : bv_cr br t z bn = bv_cr br b z bn) : bv_WN br b bn z < bv_WN br t bn z ↔ bv_WN br b bn (z - 1) < bv_WN br t bn (z - 1) := by
  obtain ⟨x, rfl⟩ : ∃ x, z = x + 1 := ⟨z - 1, by omega⟩
  rw [bv_WN, bv_WN, e, Nat.add_sub_cancel]
  omega
theorem bv_lex_ne {br : Nat → Int32} {bn t b z : Nat} (hn : bn ≤ 10) (h1 : 1 ≤ z) (e : ¬ bv_cr br t z bn = bv_cr br b z bn) : bv_WN br b bn z < bv_WN br t bn z ↔ bv_cr br b z bn < bv_cr br t z bn := by
  obtain ⟨x, rfl⟩ : ∃ x, z = x + 1 := ⟨z - 1, by omega⟩
  have l1 := bv_WN_lt br t hn x
  have l2 := bv_WN_lt br b hn x
  rw [bv_WN, bv_WN]
  generalize bv_cr br t (x + 1) bn = ct at *
  generalize bv_cr br b (x + 1) bn = cb at *
  generalize bv_WN br t bn x = wt at *
  generalize bv_WN br b bn x = wb at *
  generalize 16 ^ (x + 1) = X at *
  constructor
  · intro h
    rcases Nat.lt_or_ge cb ct with q | q
    · exact q
    · have q1 : (ct + 1) * X ≤ cb * X := Nat.mul_le_mul_right _ (by omega)
      rw [Nat.add_mul] at q1
      omega
  · intro h
    have q1 : (cb + 1) * X ≤ ct * X := Nat.mul_le_mul_right _ h
    rw [Nat.add_mul] at q1
    omega
theorem bv_bit1 {t k : Nat} (ht : t < 2 ^ 31) (hk : k < 31) : (nI t >>> (nI k &&& 31)) &&& (1 : Int32) = nI (bv_bt t k) := by
  have h1 : nI t >>> (nI k &&& 31) = nI (t / 2 ^ k) := pk_shrN ht _ k (bv_smod k hk)
  have h2 : nI (t / 2 ^ k) &&& (1 : Int32) = nI (t / 2 ^ k % 2) := pk_andN (n := t / 2 ^ k) (by have := Nat.div_le_self t (2 ^ k); omega) (m := 1) 1 (by decide)
  have h3 : t / 2 ^ k % 2 < 2 := Nat.mod_lt _ (by decide)
  rw [h1, h2]
  unfold bv_bt
  rw [Nat.testBit_eq_decide_div_mod_eq]
  by_cases c : t / 2 ^ k % 2 = 1
  · rw [if_pos (decide_eq_true c), c]
  · rw [if_neg (by rw [decide_eq_false c]; decide), show t / 2 ^ k % 2 = 0 by omega]
theorem bv_more {a b x z : Nat} (ha : a < 1000) (hb : b < 1000) (hx : x < 1000) (hz : z < 1000) : (nI a - nI b) + (nI x - nI z) = nI (a + x) - nI (b + z) := by
  apply Int32.toInt_inj.mp
  rw [Int32.toInt_add, pk_sub_toInt (by omega) (by omega), pk_sub_toInt (by omega) (by omega), pk_sub_toInt (by omega) (by omega)]
  rw [Int.bmod_eq_of_le (by omega) (by omega)]
  omega
theorem bv_more0 {a b : Nat} (ha : a < 1000) (hb : b < 1000) : nI a - nI b = 0 ↔ a = b := by
  rw [← Int32.toInt_inj, pk_sub_toInt (by omega) (by omega), show (0 : Int32).toInt = 0 from by decide]
  omega
theorem bv_morep {a b : Nat} (ha : a < 1000) (hb : b < 1000) : nI a - nI b ≤ 0 ↔ a ≤ b := by
  rw [Int32.le_iff_toInt_le, pk_sub_toInt (by omega) (by omega), show (0 : Int32).toInt = 0 from by decide]
  omega
theorem bv_cr_y {br : Nat → Int32} {t r k : Nat} (h : br k = nI r) : bv_cr br t r (k + 1) = bv_cr br t r k + bv_bt t k := by rw [bv_cr, if_pos h]
theorem bv_cr_n {br : Nat → Int32} {t r k : Nat} (h : ¬ br k = nI r) : bv_cr br t r (k + 1) = bv_cr br t r k := by rw [bv_cr, if_neg h]
theorem bv_cr_lt (br : Nat → Int32) (t r : Nat) {k : Nat} (hk : k ≤ 10) : bv_cr br t r k < 500 := by have := bv_cr_le br t r k; omega
theorem bv_bt_lt (t k : Nat) : bv_bt t k < 500 := by have := bv_bt_le t k; omega
theorem bv_more_s {br : Nat → Int32} {t b r k : Nat} (hk : k < 10) (ht : t < 2 ^ 31) (hb : b < 2 ^ 31) (h : br k = nI r) : (nI (bv_cr br t r k) - nI (bv_cr br b r k)) + (((nI t >>> (nI k &&& 31)) &&& (1 : Int32)) - ((nI b >>> (nI k &&& 31)) &&& (1 : Int32))) = nI (bv_cr br t r (k + 1)) - nI (bv_cr br b r (k + 1)) := by
  have q1 := bv_cr_lt br t r (k := k) (by omega)
  have q2 := bv_cr_lt br b r (k := k) (by omega)
  have q3 := bv_bt_lt t k
  have q4 := bv_bt_lt b k
  rw [bv_bit1 ht (by omega), bv_bit1 hb (by omega), bv_cr_y h, bv_cr_y h, bv_more (by omega) (by omega) (by omega) (by omega)]

set_option maxHeartbeats 4000000 in
set_option maxRecDepth 100000 in
theorem m_X4_isBetter (l : Launch) (G : va_G) (cI : ClassId) (y yp yb yr yl bn : Nat) (th h9 : Int32) (bs br : Nat → Int32) (t b : Nat) (hn : bn ≤ 10) (hbr : ∀ j, j < bn → ∃ r, 1 ≤ r ∧ r ≤ 9 ∧ br j = nI r) (ht : t < 2 ^ bn) (hb : b < 2 ^ bn) : Met l yX4_isBetter wsX4_isBetter ({ frames := 0, cells := 0, slots := 0, locals := 0 }) (bv_P [.ref y, .int (nI t), .int (nI b)] G cI (fun H => va_P G vwCl [(y, .inr (4, [.int th, .int h9, .ref yp, .int (nI bn), .ref yb, .ref yr, .ref yl])), (yb, .inl (cI, 10, .inl bs)), (yr, .inl (cI, 10, .inl br))] H)) (vp_Si (fun r9 : Int32 => r9 = (bv_b (bv_heavy br bn t b)))) 0 0 (fun _ => False) := by
  refine Met.ofW (cc := cX4_isBetter) (maxL := 6) (ret := (some .boolean)) (by decide) rfl ?_
  intro p e s m args below meth c s₁ B hml hv
  obtain ⟨rfl, hP, hE⟩ := hv
  have hx := B.exec
  have hb := B.bytes
  have hr := B.returns
  have hts := atoms_spec (ws := wsX4_isBetter) B.pre
  have hown : s.vm.findClass RX4 = some m.cls := findClass_of_methodNamed B.named
  have hlocks := B.notSynchronized
  have hK := hE.1
  have hw0 := hts (.fieldLink RX4 26 "BeliefReviserModel" "size" "I") (List.mem_of_getElem? (i := 1) rfl)
  have hw1 : ∀ w ∈ u_ws RX4 TX4 7, w ∈ wsX4_isBetter := by decide +kernel
  have hw2 := hts (.fieldLink RX4 16 "BeliefReviserModel" "ranks" "[I") (List.mem_of_getElem? (i := 2) rfl)
  have hP : va_P G vwCl [(y, .inr (4, [.int th, .int h9, .ref yp, .int (nI bn), .ref yb, .ref yr, .ref yl])), (yb, .inl (cI, 10, .inl bs)), (yr, .inl (cI, 10, .inl br))] s.heap := hP
  have hl := lv_entry ([.ref y, .int (nI t), .int (nI b)]) (n := 6) (Nat.le_of_ble_eq_true rfl)
  rw [lg_entry_eq]
  generalize (lg_sl ([.ref y, .int (nI t), .int (nI b)]) ++ List.replicate (6 - (lg_sl ([.ref y, .int (nI t), .int (nI b)])).length) Slot.unset).toArray = ls at hl ⊢
  have hl : lv_has ls 6 [(0, .ref y), (1, .int (nI t)), (2, .int (nI b))] := hl
  have hp10 := bv_p10 hn
  refine lv_bipush (pc := 0) (v := 9) hx hb dX4_isBetter_0 (by decide) ?_
  refine lv_istore_n (pc := 2) (lv' := [(3, .int 9), (0, .ref y), (1, .int (nI t)), (2, .int (nI b))]) hx hb dX4_isBetter_2 rfl hl (by decide) rfl (fun ls hl => ?_)
  have loop_3 : ∀ (fu9 : Nat) (z : Nat), z < fu9 → (z ≤ 9) → (bv_WN br b bn 9 < bv_WN br t bn 9 ↔ bv_WN br b bn z < bv_WN br t bn z) → ∀ (ls : Array Slot), lv_has ls 6 [(3, .int (nI z)), (0, .ref y), (1, .int (nI t)), (2, .int (nI b))] → W p l e (headSpec wsX4_isBetter ({ frames := 0, cells := 0, slots := 0, locals := 0 })).room s m ([.ref y, .int (nI t), .int (nI b)] : List Value).toArray below meth c s.heap [] 0 0 (MQ below (vp_Si (fun r9 : Int32 => r9 = (bv_b (bv_heavy br bn t b)))) ([.ref y, .int (nI t), .int (nI b)] : List Value).toArray s 0 0 (fun _ => False)) (F0 m 3 ls []) := by
    intro fu9
    induction fu9 with
    | zero => intro z hfu; exact absurd hfu (Nat.not_lt_zero _)
    | succ fu9 ih =>
      intro z hfu hz hi ls hl
      have ih_3 := ih
      refine lv_iload_n (pc := 3) hx hb dX4_isBetter_3 rfl (lv_at hl 0 rfl) ?_
      refine lv_if_le (pc := 4) (tgt := 79) hx hb dX4_isBetter_4 (by decide) (fun c4_1 => ?_) (fun c4_1 => ?_)
      · have h1 : z = 0 := by
          by_cases h : z = 0
          · exact h
          · exact absurd c4_1 (nI_nle (by omega) (by omega))
        subst h1
        refine lv_iconst (pc := 79) (v := 0) hx hb dX4_isBetter_79 (by decide) ?_
        exact W.zret (pc := 80) (v := 0) hx hb hr rfl (fun T8 hT8 hW8 => ⟨0, rfl, (by rw [bv_heavy_W hn hbr, decide_eq_false (fun q => absurd (hi.mp q) (Nat.lt_irrefl _))]; rfl), hT8⟩) (fun _ h => nomatch h) dX4_isBetter_80
      · have h1 : 1 ≤ z := by
          by_cases h : z = 0
          · subst h; exact absurd (show nI 0 ≤ 0 from by decide) c4_1
          · omega
        refine lv_iconst (pc := 7) (v := 0) hx hb dX4_isBetter_7 (by decide) ?_
        refine lv_istore (pc := 8) (lv' := [(4, .int 0), (3, .int (nI z)), (0, .ref y), (1, .int (nI t)), (2, .int (nI b))]) hx hb dX4_isBetter_8 hl (by decide) rfl (fun ls hl => ?_)
        refine lv_iconst (pc := 10) (v := 0) hx hb dX4_isBetter_10 (by decide) ?_
        refine lv_istore (pc := 11) (lv' := [(5, .int 0), (4, .int 0), (3, .int (nI z)), (0, .ref y), (1, .int (nI t)), (2, .int (nI b))]) hx hb dX4_isBetter_11 hl (by decide) rfl (fun ls hl => ?_)
        have loop_13 : ∀ (fu9 : Nat) (k : Nat) (a : Int32), bn - k < fu9 → (k ≤ bn) → (a = (nI (bv_cr br t z k) - nI (bv_cr br b z k))) → ∀ (ls : Array Slot), lv_has ls 6 [(5, .int (nI k)), (4, .int a), (3, .int (nI z)), (0, .ref y), (1, .int (nI t)), (2, .int (nI b))] → W p l e (headSpec wsX4_isBetter ({ frames := 0, cells := 0, slots := 0, locals := 0 })).room s m ([.ref y, .int (nI t), .int (nI b)] : List Value).toArray below meth c s.heap [] 0 0 (MQ below (vp_Si (fun r9 : Int32 => r9 = (bv_b (bv_heavy br bn t b)))) ([.ref y, .int (nI t), .int (nI b)] : List Value).toArray s 0 0 (fun _ => False)) (F0 m 13 ls []) := by
          intro fu9
          induction fu9 with
          | zero => intro k a hfu; exact absurd hfu (Nat.not_lt_zero _)
          | succ fu9 ih =>
            intro k a hfu hk hj ls hl
            refine lv_iload (pc := 13) hx hb dX4_isBetter_13 (lv_at hl 0 rfl) ?_
            refine lv_aload_n (pc := 15) hx hb dX4_isBetter_15 rfl (lv_at hl 3 rfl) ?_
            refine va_get (pc := 16) (D := G) (ci := 4) (v := .int (nI bn)) (C := RX4) (T := TX4) (N := 7) hx hb hts hw1 hown hK hP 0 rfl rfl 3 (by decide) hw0 (fun _ h9 => h9) rfl dX4_isBetter_16 ?_
            refine lv_icmp_ge (pc := 19) (tgt := 57) hx hb dX4_isBetter_19 (by decide) (fun c19_2 => ?_) (fun c19_2 => ?_)
            · have hkn : bn = k := by
                by_cases h : k < bn
                · exact absurd c19_2 (nI_ge h (by omega))
                · omega
              subst hkn
              refine lv_iload (pc := 57) hx hb dX4_isBetter_57 (lv_at hl 1 rfl) ?_
              refine lv_if_eq (pc := 59) (tgt := 73) hx hb dX4_isBetter_59 (by decide) (fun c59_3 => ?_) (fun c59_3 => ?_)
              · have q1 := bv_cr_lt br t z hn
                have q2 := bv_cr_lt br b z hn
                have h3 : bv_cr br t z bn = bv_cr br b z bn := (bv_more0 (by omega) (by omega)).mp (by rw [← hj]; exact c59_3)
                refine lv_iinc (pc := 73) (v := (nI (z - 1))) (lv' := [(3, .int (nI (z - 1))), (5, .int (nI bn)), (4, .int a), (0, .ref y), (1, .int (nI t)), (2, .int (nI b))]) hx hb dX4_isBetter_73 hl (k := 2) rfl (by have := pk_m1 (z - 1); rwa [Nat.sub_add_cancel h1] at this) (by decide) rfl (fun ls hl => ?_)
                refine lv_goto (pc := 76) (tgt := 3) hx hb dX4_isBetter_76 (by decide) ?_
                exact ih_3 (z - 1) (by omega) (by omega) (hi.trans (bv_lex_eq h1 h3)) ls (lv_sub hl [0, 3, 4, 5] rfl)
              · have q1 := bv_cr_lt br t z hn
                have q2 := bv_cr_lt br b z hn
                have h3 : ¬ bv_cr br t z bn = bv_cr br b z bn := fun q => c59_3 (by rw [hj]; exact (bv_more0 (by omega) (by omega)).mpr q)
                refine lv_iload (pc := 62) hx hb dX4_isBetter_62 (lv_at hl 1 rfl) ?_
                refine lv_if_le (pc := 64) (tgt := 71) hx hb dX4_isBetter_64 (by decide) (fun c64_4 => ?_) (fun c64_4 => ?_)
                · have h4 : ¬ bv_cr br b z bn < bv_cr br t z bn := Nat.not_lt.mpr ((bv_morep (by omega) (by omega)).mp (by rw [← hj]; exact c64_4))
                  refine lv_iconst (pc := 71) (v := 0) hx hb dX4_isBetter_71 (by decide) ?_
                  exact W.zret (pc := 72) (v := 0) hx hb hr rfl (fun T8 hT8 hW8 => ⟨0, rfl, (by rw [bv_heavy_W hn hbr, decide_eq_false (fun q => h4 ((bv_lex_ne hn h1 h3).mp (hi.mp q)))]; rfl), hT8⟩) (fun _ h => nomatch h) dX4_isBetter_72
                · have h4 : bv_cr br b z bn < bv_cr br t z bn := Nat.not_le.mp (fun q => c64_4 (by rw [hj]; exact (bv_morep (by omega) (by omega)).mpr q))
                  refine lv_iconst (pc := 67) (v := 1) hx hb dX4_isBetter_67 (by decide) ?_
                  refine lv_goto (pc := 68) (tgt := 72) hx hb dX4_isBetter_68 (by decide) ?_
                  exact W.zret (pc := 72) (v := 1) hx hb hr rfl (fun T8 hT8 hW8 => ⟨1, rfl, (by rw [bv_heavy_W hn hbr, decide_eq_true (hi.mpr ((bv_lex_ne hn h1 h3).mpr h4))]; rfl), hT8⟩) (fun _ h => nomatch h) dX4_isBetter_72
            · have hkn : k < bn := by
                by_cases h : k < bn
                · exact h
                · exact absurd (nI_le (by omega) (by omega)) c19_2
              refine lv_aload_n (pc := 22) hx hb dX4_isBetter_22 rfl (lv_at hl 3 rfl) ?_
              refine va_get (pc := 23) (D := G) (ci := 4) (v := .ref yr) (C := RX4) (T := TX4) (N := 7) hx hb hts hw1 hown hK hP 0 rfl rfl 5 (by decide) hw2 (fun _ h9 => h9) rfl dX4_isBetter_23 ?_
              refine lv_iload (pc := 26) hx hb dX4_isBetter_26 (lv_at hl 0 rfl) ?_
              refine bv_ial (pc := 28) hx hb hK hP 2 0 rfl rfl (by omega) (by omega) dX4_isBetter_28 ?_
              refine lv_iload_n (pc := 29) hx hb dX4_isBetter_29 rfl (lv_at hl 2 rfl) ?_
              refine lv_icmp_ne (pc := 30) (tgt := 51) hx hb dX4_isBetter_30 (by decide) (fun c30_5 => ?_) (fun c30_5 => ?_)
              · have h2 := c30_5
                refine lv_iinc (pc := 51) (v := (nI (k + 1))) (lv' := [(5, .int (nI (k + 1))), (4, .int a), (3, .int (nI z)), (0, .ref y), (1, .int (nI t)), (2, .int (nI b))]) hx hb dX4_isBetter_51 hl (k := 0) rfl (nI_1 k) (by decide) rfl (fun ls hl => ?_)
                refine lv_goto (pc := 54) (tgt := 13) hx hb dX4_isBetter_54 (by decide) ?_
                exact ih (k + 1) a (by omega) (by omega) (by rw [bv_cr_n h2, bv_cr_n h2]; exact hj) ls (lv_sub hl [0, 1, 2, 3, 4, 5] rfl)
              · have h2 := c30_5
                refine lv_iload (pc := 33) hx hb dX4_isBetter_33 (lv_at hl 1 rfl) ?_
                refine lv_iload_n (pc := 35) hx hb dX4_isBetter_35 rfl (lv_at hl 4 rfl) ?_
                refine lv_iload (pc := 36) hx hb dX4_isBetter_36 (lv_at hl 0 rfl) ?_
                refine lv_ishr (pc := 38) hx hb dX4_isBetter_38 ?_
                refine lv_iconst (pc := 39) (v := 1) hx hb dX4_isBetter_39 (by decide) ?_
                refine lv_iand (pc := 40) hx hb dX4_isBetter_40 ?_
                refine lv_iload_n (pc := 41) hx hb dX4_isBetter_41 rfl (lv_at hl 5 rfl) ?_
                refine lv_iload (pc := 42) hx hb dX4_isBetter_42 (lv_at hl 0 rfl) ?_
                refine lv_ishr (pc := 44) hx hb dX4_isBetter_44 ?_
                refine lv_iconst (pc := 45) (v := 1) hx hb dX4_isBetter_45 (by decide) ?_
                refine lv_iand (pc := 46) hx hb dX4_isBetter_46 ?_
                refine lv_isub (pc := 47) hx hb dX4_isBetter_47 ?_
                refine lv_iadd (pc := 48) hx hb dX4_isBetter_48 ?_
                refine lv_istore (pc := 49) (lv' := [(4, .int (a + ((((nI t) >>> ((nI k) &&& 31)) &&& 1) - (((nI b) >>> ((nI k) &&& 31)) &&& 1)))), (5, .int (nI k)), (3, .int (nI z)), (0, .ref y), (1, .int (nI t)), (2, .int (nI b))]) hx hb dX4_isBetter_49 hl (by decide) rfl (fun ls hl => ?_)
                refine lv_iinc (pc := 51) (v := (nI (k + 1))) (lv' := [(5, .int (nI (k + 1))), (4, .int (a + ((((nI t) >>> ((nI k) &&& 31)) &&& 1) - (((nI b) >>> ((nI k) &&& 31)) &&& 1)))), (3, .int (nI z)), (0, .ref y), (1, .int (nI t)), (2, .int (nI b))]) hx hb dX4_isBetter_51 hl (k := 1) rfl (nI_1 k) (by decide) rfl (fun ls hl => ?_)
                refine lv_goto (pc := 54) (tgt := 13) hx hb dX4_isBetter_54 (by decide) ?_
                exact ih (k + 1) (a + ((((nI t) >>> ((nI k) &&& 31)) &&& 1) - (((nI b) >>> ((nI k) &&& 31)) &&& 1))) (by omega) (by omega) (by rw [hj]; exact bv_more_s (by omega) (by omega) (by omega) h2) ls (lv_sub hl [0, 1, 2, 3, 4, 5] rfl)
        exact loop_13 (bn - 0 + 1) 0 0 (Nat.lt_succ_self _) (Nat.zero_le _) (by rw [bv_cr, bv_cr]; decide) ls (lv_sub hl [0, 1, 2, 3, 4, 5] rfl)
  exact loop_3 (9 + 1) 9 (Nat.lt_succ_self _) (by omega) Iff.rfl ls (lv_sub hl [0, 1, 2, 3] rfl)
set_option maxHeartbeats 4000000 in
set_option maxRecDepth 100000 in
theorem m_X4_bestRemainder (l : Launch) (G : va_G) (cI : ClassId) (sz : Nat) (y yp yb yr yl pn bn : Nat) (th : Int32) (pf bs br lv : Nat → Int32) (hp : pn ≤ 12) (hn : bn ≤ 10) (hbr : ∀ j, j < bn → ∃ r, 1 ≤ r ∧ r ≤ 9 ∧ br j = nI r) : Met l yX4_bestRemainder wsX4_bestRemainder ({ frames := 5, cells := 0, slots := 0, locals := 112 }) (bv_P [.ref y] G cI (fun H => H.size = sz ∧ va_P G vwCl [(y, .inr (4, [.int th, .int (nI pn), .ref yp, .int (nI bn), .ref yb, .ref yr, .ref yl])), (yp, .inl (cI, 12, .inl pf)), (yb, .inl (cI, 10, .inl bs)), (yr, .inl (cI, 10, .inl br)), (yl, .inl (cI, 16, .inl lv))] H ∧ va_D (fun _ => True) [(y, .inr (4, [.int th, .int (nI pn), .ref yp, .int (nI bn), .ref yb, .ref yr, .ref yl])), (yp, .inl (cI, 12, .inl pf)), (yb, .inl (cI, 10, .inl bs)), (yr, .inl (cI, 10, .inl br)), (yl, .inl (cI, 16, .inl lv))])) (va_Qi (fun (r9 : Int32) (_ : Unit) => r9 = (bv_if (if ¬ (1 ≤ pn) then 1 else 0) (bv_oI (bv_best (bv_ir bs bn (pf (pn - 1))) (bv_heavy br bn) (2 ^ bn))) 0)) (fun (_ : Unit) (T9 : State) => va_P G vwCl [(y, .inr (4, [.int (nI (if ¬ (1 ≤ pn) then 1 else 0)), .int (nI pn), .ref yp, .int (nI bn), .ref yb, .ref yr, .ref yl])), (yp, .inl (cI, 12, .inl pf)), (yb, .inl (cI, 10, .inl bs)), (yr, .inl (cI, 10, .inl br)), (yl, .inl (cI, 16, .inl lv))] T9.heap) (va_A [(y, .inr (4, [.int th, .int (nI pn), .ref yp, .int (nI bn), .ref yb, .ref yr, .ref yl])), (yp, .inl (cI, 12, .inl pf)), (yb, .inl (cI, 10, .inl bs)), (yr, .inl (cI, 10, .inl br)), (yl, .inl (cI, 16, .inl lv))] sz)) 0 0 (va_A [(y, .inr (4, [.int th, .int (nI pn), .ref yp, .int (nI bn), .ref yb, .ref yr, .ref yl])), (yp, .inl (cI, 12, .inl pf)), (yb, .inl (cI, 10, .inl bs)), (yr, .inl (cI, 10, .inl br)), (yl, .inl (cI, 16, .inl lv))] sz) := by
  refine Met.ofW (cc := cX4_bestRemainder) (maxL := 3) (ret := (some .int)) (by decide) rfl ?_
  intro p e s m args below meth c s₁ B hml hv
  obtain ⟨rfl, ⟨hsz, hP, hD0⟩, hE⟩ := hv
  have hx := B.exec
  have hb := B.bytes
  have hr := B.returns
  have hts := atoms_spec (ws := wsX4_bestRemainder) B.pre
  have hown : s.vm.findClass RX4 = some m.cls := findClass_of_methodNamed B.named
  have hlocks := B.notSynchronized
  have hK := hE.1
  have hw0 := hts (.fieldLink RX4 33 "BeliefReviserModel" "high" "I") (List.mem_of_getElem? (i := 1) rfl)
  have hw1 : ∀ w ∈ u_ws RX4 TX4 7, w ∈ wsX4_bestRemainder := by decide +kernel
  have hw2 := hts (.fieldLink RX4 22 "BeliefReviserModel" "thrown" "I") (List.mem_of_getElem? (i := 2) rfl)
  have hw3 := hts (.fieldLink RX4 26 "BeliefReviserModel" "size" "I") (List.mem_of_getElem? (i := 3) rfl)
  subst hsz
  have hD := hD0.self (sz := s.heap.size)
  generalize hAe : va_A [(y, .inr (4, [.int th, .int (nI pn), .ref yp, .int (nI bn), .ref yb, .ref yr, .ref yl])), (yp, .inl (cI, 12, .inl pf)), (yb, .inl (cI, 10, .inl bs)), (yr, .inl (cI, 10, .inl br)), (yl, .inl (cI, 16, .inl lv))] s.heap.size = A at hD ⊢
  have hA : ∀ q : Nat, s.heap.size ≤ q → A q := fun q h => by rw [← hAe]; exact Or.inr h
  have hS : va_S A s.heap s.heap [] := va_S.rf
  have hP : va_P G vwCl [(y, .inr (4, [.int th, .int (nI pn), .ref yp, .int (nI bn), .ref yb, .ref yr, .ref yl])), (yp, .inl (cI, 12, .inl pf)), (yb, .inl (cI, 10, .inl bs)), (yr, .inl (cI, 10, .inl br)), (yl, .inl (cI, 16, .inl lv))] s.heap := hP
  have hl := lv_entry ([.ref y]) (n := 3) (Nat.le_of_ble_eq_true rfl)
  rw [lg_entry_eq]
  generalize (lg_sl ([.ref y]) ++ List.replicate (3 - (lg_sl ([.ref y])).length) Slot.unset).toArray = ls at hl ⊢
  have hl : lv_has ls 3 [(0, .ref y)] := hl
  have hp10 := bv_p10 hn
  refine lv_aload_n (pc := 0) hx hb dX4_bestRemainder_0 rfl (lv_at hl 0 rfl) ?_
  refine lv_aload_n (pc := 1) hx hb dX4_bestRemainder_1 rfl (lv_at hl 0 rfl) ?_
  refine va_get (pc := 2) (D := G) (ci := 4) (v := .int (nI pn)) (C := RX4) (T := TX4) (N := 7) hx hb hts hw1 hown hK hP 0 rfl rfl 1 (by decide) hw0 (fun _ h9 => h9) rfl dX4_bestRemainder_2 ?_
  refine lv_if_ne (pc := 5) (tgt := 12) hx hb dX4_bestRemainder_5 (by decide) (fun c5_1 => ?_) (fun c5_1 => ?_)
  · have hck0 : 1 ≤ pn := by
      by_cases h : pn = 0
      · exact absurd (by rw [h]; rfl) c5_1
      · omega
    refine lv_iconst (pc := 12) (v := 0) hx hb dX4_bestRemainder_12 (by decide) ?_
    refine va_put (pc := 13) (D := G) (ci := 4) (v := .int 0) (ty := .int) (C := RX4) (T := TX4) (N := 7) hx hb hts hw1 tyX4 tyX4_ok nmX4 hown hK hP hD hS 0 rfl rfl 0 (by decide) hw2 (fun _ h9 => h9) rfl (by decide +kernel) rfl rfl (Nat.le_of_ble_eq_true rfl) dX4_bestRemainder_13 (fun H locs hP hD hS => ?_)
    have hP : va_P G vwCl [(y, .inr (4, [.int 0, .int (nI pn), .ref yp, .int (nI bn), .ref yb, .ref yr, .ref yl])), (yp, .inl (cI, 12, .inl pf)), (yb, .inl (cI, 10, .inl bs)), (yr, .inl (cI, 10, .inl br)), (yl, .inl (cI, 16, .inl lv))] H := hP
    have hD : va_D A [(y, .inr (4, [.int 0, .int (nI pn), .ref yp, .int (nI bn), .ref yb, .ref yr, .ref yl])), (yp, .inl (cI, 12, .inl pf)), (yb, .inl (cI, 10, .inl bs)), (yr, .inl (cI, 10, .inl br)), (yl, .inl (cI, 16, .inl lv))] := hD
    refine lv_iconst (pc := 16) (v := (-1)) hx hb dX4_bestRemainder_16 (by decide) ?_
    refine lv_istore_n (pc := 17) (lv' := [(1, .int (-1)), (0, .ref y)]) hx hb dX4_bestRemainder_17 rfl hl (by decide) rfl (fun ls hl => ?_)
    refine lv_iconst (pc := 18) (v := 0) hx hb dX4_bestRemainder_18 (by decide) ?_
    refine lv_istore_n (pc := 19) (lv' := [(2, .int 0), (1, .int (-1)), (0, .ref y)]) hx hb dX4_bestRemainder_19 rfl hl (by decide) rfl (fun ls hl => ?_)
    have loop_20 : ∀ (fu9 : Nat) (t : Nat) (o : Option Nat), 2 ^ bn - t < fu9 → (t ≤ 2 ^ bn) → (o = bv_best (bv_ir bs bn (pf (pn - 1))) (bv_heavy br bn) t) → (∀ b, o = some b → b < t) → ∀ (H : Heap) (locs : List Loc), va_P G vwCl [(y, .inr (4, [.int 0, .int (nI pn), .ref yp, .int (nI bn), .ref yb, .ref yr, .ref yl])), (yp, .inl (cI, 12, .inl pf)), (yb, .inl (cI, 10, .inl bs)), (yr, .inl (cI, 10, .inl br)), (yl, .inl (cI, 16, .inl lv))] H → va_D A [(y, .inr (4, [.int 0, .int (nI pn), .ref yp, .int (nI bn), .ref yb, .ref yr, .ref yl])), (yp, .inl (cI, 12, .inl pf)), (yb, .inl (cI, 10, .inl bs)), (yr, .inl (cI, 10, .inl br)), (yl, .inl (cI, 16, .inl lv))] → va_S A s.heap H locs → ∀ (ls : Array Slot), lv_has ls 3 [(2, .int (nI t)), (1, .int (bv_oI o)), (0, .ref y)] → W p l e (headSpec wsX4_bestRemainder ({ frames := 5, cells := 0, slots := 0, locals := 112 })).room s m ([.ref y] : List Value).toArray below meth c H locs 0 0 (MQ below (va_Qi (fun (r9 : Int32) (_ : Unit) => r9 = (bv_if (if ¬ (1 ≤ pn) then 1 else 0) (bv_oI (bv_best (bv_ir bs bn (pf (pn - 1))) (bv_heavy br bn) (2 ^ bn))) 0)) (fun (_ : Unit) (T9 : State) => va_P G vwCl [(y, .inr (4, [.int (nI (if ¬ (1 ≤ pn) then 1 else 0)), .int (nI pn), .ref yp, .int (nI bn), .ref yb, .ref yr, .ref yl])), (yp, .inl (cI, 12, .inl pf)), (yb, .inl (cI, 10, .inl bs)), (yr, .inl (cI, 10, .inl br)), (yl, .inl (cI, 16, .inl lv))] T9.heap) A) ([.ref y] : List Value).toArray s 0 0 A) (F0 m 20 ls []) := by
      intro fu9
      induction fu9 with
      | zero => intro t o hfu; exact absurd hfu (Nat.not_lt_zero _)
      | succ fu9 ih =>
        intro t o hfu htt hi ho H locs hP hD hS ls hl
        refine lv_iload_n (pc := 20) hx hb dX4_bestRemainder_20 rfl (lv_at hl 0 rfl) ?_
        refine lv_iconst (pc := 21) (v := 1) hx hb dX4_bestRemainder_21 (by decide) ?_
        refine lv_aload_n (pc := 22) hx hb dX4_bestRemainder_22 rfl (lv_at hl 2 rfl) ?_
        refine va_get (pc := 23) (D := G) (ci := 4) (v := .int (nI bn)) (C := RX4) (T := TX4) (N := 7) hx hb hts hw1 hown hK hP 0 rfl rfl 3 (by decide) hw3 (fun _ h9 => h9) rfl dX4_bestRemainder_23 ?_
        refine lv_ishl (pc := 26) hx hb dX4_bestRemainder_26 ?_
        refine lv_icmp_ge (pc := 27) (tgt := 68) hx hb dX4_bestRemainder_27 (by decide) (fun c27_2 => ?_) (fun c27_2 => ?_)
        · rw [bv_shl hn] at c27_2
          have hkt : 2 ^ bn = t := by
            by_cases h : t < 2 ^ bn
            · exact absurd c27_2 (nI_ge h (by omega))
            · omega
          subst hkt
          refine lv_aload_n (pc := 68) hx hb dX4_bestRemainder_68 rfl (lv_at hl 2 rfl) ?_
          refine va_get (pc := 69) (D := G) (ci := 4) (v := .int 0) (C := RX4) (T := TX4) (N := 7) hx hb hts hw1 hown hK hP 0 rfl rfl 0 (by decide) hw2 (fun _ h9 => h9) rfl dX4_bestRemainder_69 ?_
          refine lv_if_ne (pc := 72) (tgt := 79) hx hb dX4_bestRemainder_72 (by decide) (fun c72_3 => ?_) (fun c72_3 => ?_)
          · exact absurd rfl c72_3
          · refine lv_iload_n (pc := 75) hx hb dX4_bestRemainder_75 rfl (lv_at hl 1 rfl) ?_
            refine lv_goto (pc := 76) (tgt := 80) hx hb dX4_bestRemainder_76 (by decide) ?_
            have hP9 : va_P G vwCl [(y, .inr (4, [.int (nI (if ¬ (1 ≤ pn) then 1 else 0)), .int (nI pn), .ref yp, .int (nI bn), .ref yb, .ref yr, .ref yl])), (yp, .inl (cI, 12, .inl pf)), (yb, .inl (cI, 10, .inl bs)), (yr, .inl (cI, 10, .inl br)), (yl, .inl (cI, 16, .inl lv))] H := by rw [if_neg (not_not_intro hck0)]; exact hP
            exact W.iret (pc := 80) (v := (bv_oI o)) hx hb hr (fun T8 hT8 hW8 => ⟨⟨(bv_oI o), (), rfl, (by rw [if_neg (not_not_intro hck0), hi]; rfl), bv_hP hT8 hP9⟩, hS.F hT8⟩) hS.2.2 dX4_bestRemainder_80
        · rw [bv_shl hn] at c27_2
          have hkt : t < 2 ^ bn := by
            by_cases h : t < 2 ^ bn
            · exact h
            · exact absurd (nI_le (by omega) (by omega)) c27_2
          refine lv_aload_n (pc := 30) hx hb dX4_bestRemainder_30 rfl (lv_at hl 2 rfl) ?_
          refine va_get (pc := 31) (D := G) (ci := 4) (v := .int 0) (C := RX4) (T := TX4) (N := 7) hx hb hts hw1 hown hK hP 0 rfl rfl 0 (by decide) hw2 (fun _ h9 => h9) rfl dX4_bestRemainder_31 ?_
          refine lv_if_ne (pc := 34) (tgt := 68) hx hb dX4_bestRemainder_34 (by decide) (fun c34_4 => ?_) (fun c34_4 => ?_)
          · exact absurd rfl c34_4
          · refine lv_aload_n (pc := 37) hx hb dX4_bestRemainder_37 rfl (lv_at hl 2 rfl) ?_
            refine lv_iconst (pc := 38) (v := 0) hx hb dX4_bestRemainder_38 (by decide) ?_
            refine lv_iload_n (pc := 39) hx hb dX4_bestRemainder_39 rfl (lv_at hl 0 rfl) ?_
            have hPc := hP.sub (ws' := [(y, .inr (4, [.int 0, .int (nI pn), .ref yp, .int (nI bn), .ref yb, .ref yr, .ref yl])), (yp, .inl (cI, 12, .inl pf)), (yb, .inl (cI, 10, .inl bs)), (yr, .inl (cI, 10, .inl br)), (yl, .inl (cI, 16, .inl lv))]) [0, 1, 2, 3, 4] rfl
            refine bv_cSi (pc := 40) (E' := (bv_b (bv_ir bs bn (pf (pn - 1)) t))) (va_runV (As := [.int 0, .int (nI t)]) (rest := []) ⟨hx, hb, hml, hown, hts⟩ (m_X4_is l G cI y yp yb yr yl pn bn 0 pf bs br lv false t hp hck0 hn hkt) (cwV 2 hts gX4_bestRemainder_X4_is rfl rfl rfl (by decide +kernel) ⟨Nat.le_of_ble_eq_true rfl, Nat.le_of_ble_eq_true rfl⟩) (bv_pV hE hPc (va_recv hK hP (ci := 4) (q0 := 0) rfl rfl)) rfl rfl hl.1 rfl (lv_room (Nat.le_of_ble_eq_true rfl)) dX4_bestRemainder_40 ⟨Nat.le_of_ble_eq_true rfl, Nat.le_of_ble_eq_true rfl⟩) rfl ?_
            refine lv_if_eq (pc := 43) (tgt := 62) hx hb dX4_bestRemainder_43 (by decide) (fun c43_7 => ?_) (fun c43_7 => ?_)
            · have h2 : bv_ir bs bn (pf (pn - 1)) t = false := bv_b0.mp c43_7
              refine lv_iinc (pc := 62) (v := (nI (t + 1))) (lv' := [(2, .int (nI (t + 1))), (1, .int (bv_oI o)), (0, .ref y)]) hx hb dX4_bestRemainder_62 hl (k := 0) rfl (nI_1 t) (by decide) rfl (fun ls hl => ?_)
              refine lv_goto (pc := 65) (tgt := 20) hx hb dX4_bestRemainder_65 (by decide) ?_
              exact ih (t + 1) o (by omega) (by omega) (by rw [bv_best, ← hi]; cases o <;> simp [h2]) (fun b h => by have := ho b h; omega) H _ hP hD hS ls (lv_sub hl [0, 1, 2] rfl)
            · have h2 : bv_ir bs bn (pf (pn - 1)) t = true := bv_b1.mp c43_7
              refine lv_iload_n (pc := 46) hx hb dX4_bestRemainder_46 rfl (lv_at hl 1 rfl) ?_
              refine lv_iconst (pc := 47) (v := (-1)) hx hb dX4_bestRemainder_47 (by decide) ?_
              refine lv_icmp_eq (pc := 48) (tgt := 60) hx hb dX4_bestRemainder_48 (by decide) (fun c48_8 => ?_) (fun c48_8 => ?_)
              · have h3 := bv_oI_neg ho (by omega) (by rw [c48_8]; decide)
                refine lv_iload_n (pc := 60) hx hb dX4_bestRemainder_60 rfl (lv_at hl 0 rfl) ?_
                refine lv_istore_n (pc := 61) (lv' := [(1, .int (nI t)), (2, .int (nI t)), (0, .ref y)]) hx hb dX4_bestRemainder_61 rfl hl (by decide) rfl (fun ls hl => ?_)
                refine lv_iinc (pc := 62) (v := (nI (t + 1))) (lv' := [(2, .int (nI (t + 1))), (1, .int (nI t)), (0, .ref y)]) hx hb dX4_bestRemainder_62 hl (k := 1) rfl (nI_1 t) (by decide) rfl (fun ls hl => ?_)
                refine lv_goto (pc := 65) (tgt := 20) hx hb dX4_bestRemainder_65 (by decide) ?_
                exact ih (t + 1) (some t) (by omega) (by omega) (by rw [bv_best, ← hi, h3]; simp [h2]) (fun b h => by cases h; omega) H _ hP hD hS ls (lv_sub hl [0, 1, 2] rfl)
              · obtain ⟨b, hob, hb9⟩ := bv_oI_lt ho (by omega) (fun q => c48_8 (by rw [bv_oI_neg ho (by omega) q]; rfl))
                have hoe : bv_oI o = nI b := by rw [hob]; rfl
                rw [hoe] at hl
                refine lv_aload_n (pc := 51) hx hb dX4_bestRemainder_51 rfl (lv_at hl 2 rfl) ?_
                refine lv_iload_n (pc := 52) hx hb dX4_bestRemainder_52 rfl (lv_at hl 0 rfl) ?_
                refine lv_iload_n (pc := 53) hx hb dX4_bestRemainder_53 rfl (lv_at hl 1 rfl) ?_
                have hPc := hP.sub (ws' := [(y, .inr (4, [.int 0, .int (nI pn), .ref yp, .int (nI bn), .ref yb, .ref yr, .ref yl])), (yb, .inl (cI, 10, .inl bs)), (yr, .inl (cI, 10, .inl br))]) [0, 2, 3] rfl
                refine bv_cSi (pc := 54) (E' := (bv_b (bv_heavy br bn t b))) (va_runV (As := [.int (nI t), .int (nI b)]) (rest := []) ⟨hx, hb, hml, hown, hts⟩ (m_X4_isBetter l G cI y yp yb yr yl bn 0 (nI pn) bs br t b hn hbr hkt (by omega)) (cwV 2 hts gX4_bestRemainder_X4_isBetter rfl rfl rfl (by decide +kernel) ⟨Nat.le_of_ble_eq_true rfl, Nat.le_of_ble_eq_true rfl⟩) (bv_pV hE hPc (va_recv hK hP (ci := 4) (q0 := 0) rfl rfl)) rfl rfl hl.1 rfl (lv_room (Nat.le_of_ble_eq_true rfl)) dX4_bestRemainder_54 ⟨Nat.le_of_ble_eq_true rfl, Nat.le_of_ble_eq_true rfl⟩) rfl ?_
                refine lv_if_eq (pc := 57) (tgt := 62) hx hb dX4_bestRemainder_57 (by decide) (fun c57_11 => ?_) (fun c57_11 => ?_)
                · have h4 : bv_heavy br bn t b = false := bv_b0.mp c57_11
                  refine lv_iinc (pc := 62) (v := (nI (t + 1))) (lv' := [(2, .int (nI (t + 1))), (1, .int (nI b)), (0, .ref y)]) hx hb dX4_bestRemainder_62 hl (k := 0) rfl (nI_1 t) (by decide) rfl (fun ls hl => ?_)
                  refine lv_goto (pc := 65) (tgt := 20) hx hb dX4_bestRemainder_65 (by decide) ?_
                  exact ih (t + 1) (some b) (by omega) (by omega) (by rw [bv_best, ← hi, hob]; simp [h2, h4]) (fun b8 h => by cases h; omega) H _ hP hD hS ls (lv_sub hl [0, 1, 2] rfl)
                · have h4 : bv_heavy br bn t b = true := bv_b1.mp c57_11
                  refine lv_iload_n (pc := 60) hx hb dX4_bestRemainder_60 rfl (lv_at hl 0 rfl) ?_
                  refine lv_istore_n (pc := 61) (lv' := [(1, .int (nI t)), (2, .int (nI t)), (0, .ref y)]) hx hb dX4_bestRemainder_61 rfl hl (by decide) rfl (fun ls hl => ?_)
                  refine lv_iinc (pc := 62) (v := (nI (t + 1))) (lv' := [(2, .int (nI (t + 1))), (1, .int (nI t)), (0, .ref y)]) hx hb dX4_bestRemainder_62 hl (k := 1) rfl (nI_1 t) (by decide) rfl (fun ls hl => ?_)
                  refine lv_goto (pc := 65) (tgt := 20) hx hb dX4_bestRemainder_65 (by decide) ?_
                  exact ih (t + 1) (some t) (by omega) (by omega) (by rw [bv_best, ← hi, hob]; simp [h2, h4]) (fun b h => by cases h; omega) H _ hP hD hS ls (lv_sub hl [0, 1, 2] rfl)
    exact loop_20 (2 ^ bn - 0 + 1) 0 none (Nat.lt_succ_self _) (Nat.zero_le _) rfl (fun b h => nomatch h) H _ hP hD hS ls (lv_sub hl [0, 1, 2] rfl)
  · have hbad : ¬ 1 ≤ pn := by
      have h : pn = 0 := (bv_pn0 (by omega)).mp c5_1
      omega
    refine lv_iconst (pc := 8) (v := 1) hx hb dX4_bestRemainder_8 (by decide) ?_
    refine lv_goto (pc := 9) (tgt := 13) hx hb dX4_bestRemainder_9 (by decide) ?_
    refine va_put (pc := 13) (D := G) (ci := 4) (v := .int 1) (ty := .int) (C := RX4) (T := TX4) (N := 7) hx hb hts hw1 tyX4 tyX4_ok nmX4 hown hK hP hD hS 0 rfl rfl 0 (by decide) hw2 (fun _ h9 => h9) rfl (by decide +kernel) rfl rfl (Nat.le_of_ble_eq_true rfl) dX4_bestRemainder_13 (fun H locs hP hD hS => ?_)
    have hP : va_P G vwCl [(y, .inr (4, [.int 1, .int (nI pn), .ref yp, .int (nI bn), .ref yb, .ref yr, .ref yl])), (yp, .inl (cI, 12, .inl pf)), (yb, .inl (cI, 10, .inl bs)), (yr, .inl (cI, 10, .inl br)), (yl, .inl (cI, 16, .inl lv))] H := hP
    have hD : va_D A [(y, .inr (4, [.int 1, .int (nI pn), .ref yp, .int (nI bn), .ref yb, .ref yr, .ref yl])), (yp, .inl (cI, 12, .inl pf)), (yb, .inl (cI, 10, .inl bs)), (yr, .inl (cI, 10, .inl br)), (yl, .inl (cI, 16, .inl lv))] := hD
    refine lv_iconst (pc := 16) (v := (-1)) hx hb dX4_bestRemainder_16 (by decide) ?_
    refine lv_istore_n (pc := 17) (lv' := [(1, .int (-1)), (0, .ref y)]) hx hb dX4_bestRemainder_17 rfl hl (by decide) rfl (fun ls hl => ?_)
    refine lv_iconst (pc := 18) (v := 0) hx hb dX4_bestRemainder_18 (by decide) ?_
    refine lv_istore_n (pc := 19) (lv' := [(2, .int 0), (1, .int (-1)), (0, .ref y)]) hx hb dX4_bestRemainder_19 rfl hl (by decide) rfl (fun ls hl => ?_)
    refine lv_iload_n (pc := 20) hx hb dX4_bestRemainder_20 rfl (lv_at hl 0 rfl) ?_
    refine lv_iconst (pc := 21) (v := 1) hx hb dX4_bestRemainder_21 (by decide) ?_
    refine lv_aload_n (pc := 22) hx hb dX4_bestRemainder_22 rfl (lv_at hl 2 rfl) ?_
    refine va_get (pc := 23) (D := G) (ci := 4) (v := .int (nI bn)) (C := RX4) (T := TX4) (N := 7) hx hb hts hw1 hown hK hP 0 rfl rfl 3 (by decide) hw3 (fun _ h9 => h9) rfl dX4_bestRemainder_23 ?_
    refine lv_ishl (pc := 26) hx hb dX4_bestRemainder_26 ?_
    refine lv_icmp_ge (pc := 27) (tgt := 68) hx hb dX4_bestRemainder_27 (by decide) (fun c27_12 => ?_) (fun c27_12 => ?_)
    · refine lv_aload_n (pc := 68) hx hb dX4_bestRemainder_68 rfl (lv_at hl 2 rfl) ?_
      refine va_get (pc := 69) (D := G) (ci := 4) (v := .int 1) (C := RX4) (T := TX4) (N := 7) hx hb hts hw1 hown hK hP 0 rfl rfl 0 (by decide) hw2 (fun _ h9 => h9) rfl dX4_bestRemainder_69 ?_
      refine lv_if_ne (pc := 72) (tgt := 79) hx hb dX4_bestRemainder_72 (by decide) (fun c72_13 => ?_) (fun c72_13 => ?_)
      · refine lv_iconst (pc := 79) (v := 0) hx hb dX4_bestRemainder_79 (by decide) ?_
        have hP9 : va_P G vwCl [(y, .inr (4, [.int (nI (if ¬ (1 ≤ pn) then 1 else 0)), .int (nI pn), .ref yp, .int (nI bn), .ref yb, .ref yr, .ref yl])), (yp, .inl (cI, 12, .inl pf)), (yb, .inl (cI, 10, .inl bs)), (yr, .inl (cI, 10, .inl br)), (yl, .inl (cI, 16, .inl lv))] H := by rw [if_pos hbad]; exact hP
        exact W.iret (pc := 80) (v := 0) hx hb hr (fun T8 hT8 hW8 => ⟨⟨0, (), rfl, (by rw [if_pos hbad]; rfl), bv_hP hT8 hP9⟩, hS.F hT8⟩) hS.2.2 dX4_bestRemainder_80
      · exact absurd c72_13 (by decide)
    · refine lv_aload_n (pc := 30) hx hb dX4_bestRemainder_30 rfl (lv_at hl 2 rfl) ?_
      refine va_get (pc := 31) (D := G) (ci := 4) (v := .int 1) (C := RX4) (T := TX4) (N := 7) hx hb hts hw1 hown hK hP 0 rfl rfl 0 (by decide) hw2 (fun _ h9 => h9) rfl dX4_bestRemainder_31 ?_
      refine lv_if_ne (pc := 34) (tgt := 68) hx hb dX4_bestRemainder_34 (by decide) (fun c34_14 => ?_) (fun c34_14 => ?_)
      · refine lv_aload_n (pc := 68) hx hb dX4_bestRemainder_68 rfl (lv_at hl 2 rfl) ?_
        refine va_get (pc := 69) (D := G) (ci := 4) (v := .int 1) (C := RX4) (T := TX4) (N := 7) hx hb hts hw1 hown hK hP 0 rfl rfl 0 (by decide) hw2 (fun _ h9 => h9) rfl dX4_bestRemainder_69 ?_
        refine lv_if_ne (pc := 72) (tgt := 79) hx hb dX4_bestRemainder_72 (by decide) (fun c72_15 => ?_) (fun c72_15 => ?_)
        · refine lv_iconst (pc := 79) (v := 0) hx hb dX4_bestRemainder_79 (by decide) ?_
          have hP9 : va_P G vwCl [(y, .inr (4, [.int (nI (if ¬ (1 ≤ pn) then 1 else 0)), .int (nI pn), .ref yp, .int (nI bn), .ref yb, .ref yr, .ref yl])), (yp, .inl (cI, 12, .inl pf)), (yb, .inl (cI, 10, .inl bs)), (yr, .inl (cI, 10, .inl br)), (yl, .inl (cI, 16, .inl lv))] H := by rw [if_pos hbad]; exact hP
          exact W.iret (pc := 80) (v := 0) hx hb hr (fun T8 hT8 hW8 => ⟨⟨0, (), rfl, (by rw [if_pos hbad]; rfl), bv_hP hT8 hP9⟩, hS.F hT8⟩) hS.2.2 dX4_bestRemainder_80
        · exact absurd c72_15 (by decide)
      · exact absurd c34_14 (by decide)
