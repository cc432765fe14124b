/-! The state: levels of worlds. -/
def bv_ll (lv : Nat → Int32) (S : Int32) : Nat → Int32
  | 0 => -1
  | w + 1 => if bv_has S (nI w) = true ∧ (bv_ll lv S w < 0 ∨ lv w < bv_ll lv S w) then lv w else bv_ll lv S w
def bv_wa (lv : Nat → Int32) (S x : Int32) : Nat → Int32
  | 0 => 0
  | w + 1 => if bv_has S (nI w) = true ∧ lv w = x then bv_wa lv S x w ||| ((1 : Int32) <<< (nI w &&& 31)) else bv_wa lv S x w
def bv_mp (lv : Nat → Int32) (S : Int32) : Int32 := bv_wa lv S (bv_ll lv S 16) 16
/-- the levels of the first k worlds of S become greater by d -/
def bv_sh (lv : Nat → Int32) (S d : Int32) (k : Nat) : Nat → Int32 := fun j => if j < k ∧ bv_has S (nI j) = true then lv j + d else lv j
def bv_bf (lv : Nat → Int32) (S : Int32) (k : Nat) : Nat → Int32 := fun j => if j < k ∧ bv_has S (nI j) = true then 0 else lv j
def bv_put1 (f g : Nat → Int32) (k : Nat) : Nat → Int32 := fun j => if j < k then g j else f j
def bv_gl (lv : Nat → Int32) : Nat → Int32
  | 0 => 0
  | w + 1 => bv_max (bv_gl lv w) (lv w)
def bv_fst (f : Nat → Int32) (i : Nat) : Bool := bv_all (fun k => !decide (f k = f i)) i
def bv_cd (f : Nat → Int32) (bd : Int32) : Nat → Nat
  | 0 => 0
  | k + 1 => if f k < bd ∧ bv_fst f k = true then bv_cd f bd k + 1 else bv_cd f bd k
def bv_ldig (d : Int64) (lv : Nat → Int32) : Nat → Int64
  | 0 => d
  | w + 1 => bv_dstep (bv_ldig d lv w) (lv w)
theorem bv_sh_0 {lv : Nat → Int32} {S d : Int32} : bv_sh lv S d 0 = lv := by funext j; unfold bv_sh; rw [if_neg (fun h => absurd h.1 (Nat.not_lt_zero _))]
theorem bv_bf_0 {lv : Nat → Int32} {S : Int32} : bv_bf lv S 0 = lv := by funext j; unfold bv_bf; rw [if_neg (fun h => absurd h.1 (Nat.not_lt_zero _))]
theorem bv_put1_0 {f g : Nat → Int32} : bv_put1 f g 0 = f := by funext j; unfold bv_put1; rw [if_neg (Nat.not_lt_zero _)]
theorem bv_sh_at {lv : Nat → Int32} {S d : Int32} {k : Nat} : bv_sh lv S d k k = lv k := by unfold bv_sh; rw [if_neg (fun h => absurd h.1 (Nat.lt_irrefl _))]
theorem bv_sh_s {lv : Nat → Int32} {S d : Int32} {k : Nat} (h : bv_has S (nI k) = true) : upd (bv_sh lv S d k) k (lv k + d) = bv_sh lv S d (k + 1) := by
  funext j
  show (if j = k then _ else _) = _
  unfold bv_sh
  by_cases e : j = k
  · subst e; rw [if_pos rfl, if_pos ⟨Nat.lt_succ_self _, h⟩]
  · rw [if_neg e]
    by_cases hj : j < k ∧ bv_has S (nI j) = true
    · rw [if_pos hj, if_pos ⟨by omega, hj.2⟩]
    · rw [if_neg hj, if_neg (fun q => hj ⟨by omega, q.2⟩)]
theorem bv_sh_n {lv : Nat → Int32} {S d : Int32} {k : Nat} (h : bv_has S (nI k) = false) : bv_sh lv S d k = bv_sh lv S d (k + 1) := by
  funext j
  unfold bv_sh
  by_cases e : j = k
  · subst e; rw [if_neg (fun q => absurd q.1 (Nat.lt_irrefl _)), if_neg (fun q => by rw [h] at q; exact absurd q.2 (by decide))]
  · by_cases hj : j < k ∧ bv_has S (nI j) = true
    · rw [if_pos hj, if_pos ⟨by omega, hj.2⟩]
    · rw [if_neg hj, if_neg (fun q => hj ⟨by omega, q.2⟩)]
theorem bv_bf_s {lv : Nat → Int32} {S : Int32} {k : Nat} (h : bv_has S (nI k) = true) : upd (bv_bf lv S k) k 0 = bv_bf lv S (k + 1) := by
  funext j
  show (if j = k then _ else _) = _
  unfold bv_bf
  by_cases e : j = k
  · subst e; rw [if_pos rfl, if_pos ⟨Nat.lt_succ_self _, h⟩]
  · rw [if_neg e]
    by_cases hj : j < k ∧ bv_has S (nI j) = true
    · rw [if_pos hj, if_pos ⟨by omega, hj.2⟩]
    · rw [if_neg hj, if_neg (fun q => hj ⟨by omega, q.2⟩)]
theorem bv_bf_n {lv : Nat → Int32} {S : Int32} {k : Nat} (h : bv_has S (nI k) = false) : bv_bf lv S k = bv_bf lv S (k + 1) := by
  funext j
  unfold bv_bf
  by_cases e : j = k
  · subst e; rw [if_neg (fun q => absurd q.1 (Nat.lt_irrefl _)), if_neg (fun q => by rw [h] at q; exact absurd q.2 (by decide))]
  · by_cases hj : j < k ∧ bv_has S (nI j) = true
    · rw [if_pos hj, if_pos ⟨by omega, hj.2⟩]
    · rw [if_neg hj, if_neg (fun q => hj ⟨by omega, q.2⟩)]
theorem bv_put1_s {f g : Nat → Int32} {k : Nat} {x : Int32} (h : x = g k) : upd (bv_put1 f g k) k x = bv_put1 f g (k + 1) := by
  funext j
  show (if j = k then _ else _) = _
  unfold bv_put1
  by_cases e : j = k
  · subst e; rw [if_pos rfl, if_pos (Nat.lt_succ_self _), h]
  · rw [if_neg e]
    by_cases hj : j < k
    · rw [if_pos hj, if_pos (by omega)]
    · rw [if_neg hj, if_neg (by omega)]
theorem bv_cd_le (f : Nat → Int32) (bd : Int32) (k : Nat) : bv_cd f bd k ≤ k := by
  induction k with
  | zero => exact Nat.le_refl _
  | succ k ih => rw [bv_cd]; split <;> omega
def bv_open (lv : Nat → Int32) : Int32 := bv_wa lv 65535 0 16
def bv_load (bs br : Nat → Int32) (bn : Nat) (lv : Nat → Int32) : Nat → Int32 := bv_put1 lv (fun w => bv_gr bs br (nI w) bn) 16
def bv_loaded (bs br : Nat → Int32) (bn : Nat) (lv : Nat → Int32) : Nat → Int32 := bv_sh (bv_load bs br bn lv) 65535 (-(bv_ll (bv_load bs br bn lv) 65535 16)) 16
def bv_firm1 (lv : Nat → Int32) (S : Int32) : Nat → Int32 := bv_sh lv S (-(bv_ll lv S 16)) 16
def bv_firm (lv : Nat → Int32) (S fi : Int32) : Nat → Int32 := bv_sh (bv_firm1 lv S) (bv_not S) (fi - bv_ll (bv_firm1 lv S) (bv_not S) 16) 16
def bv_nat (lv : Nat → Int32) (S : Int32) : Nat → Int32 := bv_bf (bv_sh lv 65535 1 16) (bv_mp lv S) 16
def bv_doubt (lv : Nat → Int32) (S : Int32) : Nat → Int32 := bv_bf lv (bv_mp lv (bv_not S)) 16
def bv_key (lv : Nat → Int32) (S : Int32) (w : Nat) : Int32 := if bv_has S (nI w) then lv w else lv w + (bv_gl lv 16 + 1)
def bv_keys (lv ks : Nat → Int32) (S : Int32) : Nat → Int32 := bv_put1 ks (bv_key lv S) 16
def bv_byk (lv ks : Nat → Int32) : Nat → Int32 := bv_put1 lv (fun w => nI (bv_cd ks (ks w) 16)) 16
def bv_strict (lv ks : Nat → Int32) (S : Int32) : Nat → Int32 := bv_byk lv (bv_keys lv ks S)
def bv_learn (lv ks : Nat → Int32) (wy : Nat) (S fi : Int32) : Nat → Int32 := if wy = 0 then bv_firm lv S fi else if wy = 1 then bv_nat lv S else if wy = 2 then bv_strict lv ks S else bv_doubt lv S
def bv_lkeys (lv ks : Nat → Int32) (wy : Nat) (S : Int32) : Nat → Int32 := if wy = 2 then bv_keys lv ks S else ks

set_option maxHeartbeats 4000000 in
set_option maxRecDepth 100000 in
theorem m_X1_leastLevel (l : Launch) (G : va_G) (cI : ClassId) (xm al ak : Nat) (lv ks : Nat → Int32) (S : Int32) : Met l yX1_leastLevel wsX1_leastLevel ({ frames := 1, cells := 0, slots := 0, locals := 21 }) (bv_P [.ref xm, .int S] G cI (fun H => va_P G vwCl [(xm, .inr (1, [.ref al, .ref ak])), (al, .inl (cI, 16, .inl lv)), (ak, .inl (cI, 16, .inl ks))] H)) (vp_Si (fun r9 : Int32 => r9 = (bv_ll lv S 16))) 0 0 (fun _ => False) := by
  refine Met.ofW (cc := cX1_leastLevel) (maxL := 4) (ret := (some .int)) (by decide) rfl ?_
  intro p e s m args below meth c s₁ B hml hv
  obtain ⟨rfl, hP, hE⟩ := hv
  have hx := B.exec
  have hb := B.bytes
  have hr := B.returns
  have hts := atoms_spec (ws := wsX1_leastLevel) B.pre
  have hown : s.vm.findClass RX1 = some m.cls := findClass_of_methodNamed B.named
  have hlocks := B.notSynchronized
  have hK := hE.1
  have hw0 := hts (.fieldLink RX1 9 "BeliefReviser$Mind" "levels" "[I") (List.mem_of_getElem? (i := 1) rfl)
  have hw1 : ∀ w ∈ u_ws RX1 TX1 2, w ∈ wsX1_leastLevel := by decide +kernel
  have hw2 := hts (.static yX3_has) (List.mem_of_getElem? (i := 2) rfl)
  have hw3 := hts (.initialized RX3) (List.mem_of_getElem? (i := 3) rfl)
  have hw4 : va_Nw (.methodLinkNest RX1 27 yX3_has RX3) s := hE.2 (RX1, 27, yX3_has) (List.mem_of_getElem? (i := 7) rfl)
  have hP : va_P G vwCl [(xm, .inr (1, [.ref al, .ref ak])), (al, .inl (cI, 16, .inl lv)), (ak, .inl (cI, 16, .inl ks))] s.heap := hP
  have hl := lv_entry ([.ref xm, .int S]) (n := 4) (Nat.le_of_ble_eq_true rfl)
  rw [lg_entry_eq]
  generalize (lg_sl ([.ref xm, .int S]) ++ List.replicate (4 - (lg_sl ([.ref xm, .int S])).length) Slot.unset).toArray = ls at hl ⊢
  have hl : lv_has ls 4 [(0, .ref xm), (1, .int S)] := hl
  refine lv_iconst (pc := 0) (v := (-1)) hx hb dX1_leastLevel_0 (by decide) ?_
  refine lv_istore_n (pc := 1) (lv' := [(2, .int (-1)), (0, .ref xm), (1, .int S)]) hx hb dX1_leastLevel_1 rfl hl (by decide) rfl (fun ls hl => ?_)
  refine lv_iconst (pc := 2) (v := 0) hx hb dX1_leastLevel_2 (by decide) ?_
  refine lv_istore_n (pc := 3) (lv' := [(3, .int 0), (2, .int (-1)), (0, .ref xm), (1, .int S)]) hx hb dX1_leastLevel_3 rfl hl (by decide) rfl (fun ls hl => ?_)
  have loop_4 : ∀ (fu9 : Nat) (k : Nat) (a : Int32), 16 - k < fu9 → (k ≤ 16) → (a = bv_ll lv S k) → ∀ (ls : Array Slot), lv_has ls 4 [(3, .int (nI k)), (2, .int a), (0, .ref xm), (1, .int S)] → W p l e (headSpec wsX1_leastLevel ({ frames := 1, cells := 0, slots := 0, locals := 21 })).room s m ([.ref xm, .int S] : List Value).toArray below meth c s.heap [] 0 0 (MQ below (vp_Si (fun r9 : Int32 => r9 = (bv_ll lv S 16))) ([.ref xm, .int S] : List Value).toArray s 0 0 (fun _ => False)) (F0 m 4 ls []) := by
    intro fu9
    induction fu9 with
    | zero => intro k a hfu; exact absurd hfu (Nat.not_lt_zero _)
    | succ fu9 ih =>
      intro k a hfu hk hi ls hl
      refine lv_iload_n (pc := 4) hx hb dX1_leastLevel_4 rfl (lv_at hl 0 rfl) ?_
      refine lv_aload_n (pc := 5) hx hb dX1_leastLevel_5 rfl (lv_at hl 2 rfl) ?_
      refine va_get (pc := 6) (D := G) (ci := 1) (v := .ref al) (C := RX1) (T := TX1) (N := 2) hx hb hts hw1 hown hK hP 0 rfl rfl 0 (by decide) hw0 (fun _ h9 => h9) rfl dX1_leastLevel_6 ?_
      refine va_alen (pc := 9) (v := (nI 16)) hx hb hK hP 1 0 rfl rfl rfl dX1_leastLevel_9 ?_
      refine lv_icmp_ge (pc := 10) (tgt := 48) hx hb dX1_leastLevel_10 (by decide) (fun c10_1 => ?_) (fun c10_1 => ?_)
      · have hkn : 16 = k := by
          by_cases h : k < 16
          · exact absurd c10_1 (nI_ge h (by omega))
          · omega
        subst hkn
        refine lv_iload_n (pc := 48) hx hb dX1_leastLevel_48 rfl (lv_at hl 1 rfl) ?_
        exact W.iret (pc := 49) (v := a) hx hb hr (fun T8 hT8 hW8 => ⟨a, rfl, hi, hT8⟩) (fun _ h => nomatch h) dX1_leastLevel_49
      · have hkn : k < 16 := by
          by_cases h : k < 16
          · exact h
          · exact absurd (nI_le (by omega) (by omega)) c10_1
        refine lv_iload_n (pc := 13) hx hb dX1_leastLevel_13 rfl (lv_at hl 3 rfl) ?_
        refine lv_iload_n (pc := 14) hx hb dX1_leastLevel_14 rfl (lv_at hl 0 rfl) ?_
        have hPc := hP.sub (ws' := []) [] rfl
        refine bv_cSi (pc := 15) (E' := (bv_b (bv_has S (nI k)))) (va_runSN (As := [.int S, .int (nI k)]) (rest := []) ⟨hx, hb, hml, hown, hts⟩ (m_X3_has l G cI S (nI k) ) ⟨va_cnB 2 hts gX1_leastLevel_X3_has_n27 rfl rfl rfl hw4 hw3 (by decide +kernel) ⟨Nat.le_of_ble_eq_true rfl, Nat.le_of_ble_eq_true rfl⟩, hw2, trivial⟩ (bv_pS hE hPc) rfl rfl hl.1 rfl (lv_room (Nat.le_of_ble_eq_true rfl)) dX1_leastLevel_15 ⟨Nat.le_of_ble_eq_true rfl, Nat.le_of_ble_eq_true rfl⟩) rfl ?_
        refine lv_if_eq (pc := 18) (tgt := 42) hx hb dX1_leastLevel_18 (by decide) (fun c18_4 => ?_) (fun c18_4 => ?_)
        · have h2 := bv_b0.mp c18_4
          refine lv_iinc (pc := 42) (v := (nI (k + 1))) (lv' := [(3, .int (nI (k + 1))), (2, .int a), (0, .ref xm), (1, .int S)]) hx hb dX1_leastLevel_42 hl (k := 0) rfl (nI_1 k) (by decide) rfl (fun ls hl => ?_)
          refine lv_goto (pc := 45) (tgt := 4) hx hb dX1_leastLevel_45 (by decide) ?_
          exact ih (k + 1) a (by omega) (by omega) (by rw [bv_ll, ← hi, if_neg (fun q => by rw [h2] at q; exact absurd q.1 (by decide))]) ls (lv_sub hl [0, 1, 2, 3] rfl)
        · have h2 := bv_b1.mp c18_4
          refine lv_iload_n (pc := 21) hx hb dX1_leastLevel_21 rfl (lv_at hl 1 rfl) ?_
          refine lv_if_lt (pc := 22) (tgt := 35) hx hb dX1_leastLevel_22 (by decide) (fun c22_5 => ?_) (fun c22_5 => ?_)
          · have h3 := c22_5
            refine lv_aload_n (pc := 35) hx hb dX1_leastLevel_35 rfl (lv_at hl 2 rfl) ?_
            refine va_get (pc := 36) (D := G) (ci := 1) (v := .ref al) (C := RX1) (T := TX1) (N := 2) hx hb hts hw1 hown hK hP 0 rfl rfl 0 (by decide) hw0 (fun _ h9 => h9) rfl dX1_leastLevel_36 ?_
            refine lv_iload_n (pc := 39) hx hb dX1_leastLevel_39 rfl (lv_at hl 0 rfl) ?_
            refine bv_ial (pc := 40) hx hb hK hP 1 0 rfl rfl (by omega) (by omega) dX1_leastLevel_40 ?_
            refine lv_istore_n (pc := 41) (lv' := [(2, .int (lv k)), (3, .int (nI k)), (0, .ref xm), (1, .int S)]) hx hb dX1_leastLevel_41 rfl hl (by decide) rfl (fun ls hl => ?_)
            refine lv_iinc (pc := 42) (v := (nI (k + 1))) (lv' := [(3, .int (nI (k + 1))), (2, .int (lv k)), (0, .ref xm), (1, .int S)]) hx hb dX1_leastLevel_42 hl (k := 1) rfl (nI_1 k) (by decide) rfl (fun ls hl => ?_)
            refine lv_goto (pc := 45) (tgt := 4) hx hb dX1_leastLevel_45 (by decide) ?_
            exact ih (k + 1) (lv k) (by omega) (by omega) (by rw [bv_ll, ← hi, if_pos ⟨h2, Or.inl h3⟩]) ls (lv_sub hl [0, 1, 2, 3] rfl)
          · have h3 := c22_5
            refine lv_aload_n (pc := 25) hx hb dX1_leastLevel_25 rfl (lv_at hl 2 rfl) ?_
            refine va_get (pc := 26) (D := G) (ci := 1) (v := .ref al) (C := RX1) (T := TX1) (N := 2) hx hb hts hw1 hown hK hP 0 rfl rfl 0 (by decide) hw0 (fun _ h9 => h9) rfl dX1_leastLevel_26 ?_
            refine lv_iload_n (pc := 29) hx hb dX1_leastLevel_29 rfl (lv_at hl 0 rfl) ?_
            refine bv_ial (pc := 30) hx hb hK hP 1 0 rfl rfl (by omega) (by omega) dX1_leastLevel_30 ?_
            refine lv_iload_n (pc := 31) hx hb dX1_leastLevel_31 rfl (lv_at hl 1 rfl) ?_
            refine lv_icmp_ge (pc := 32) (tgt := 42) hx hb dX1_leastLevel_32 (by decide) (fun c32_6 => ?_) (fun c32_6 => ?_)
            · have h4 := c32_6
              refine lv_iinc (pc := 42) (v := (nI (k + 1))) (lv' := [(3, .int (nI (k + 1))), (2, .int a), (0, .ref xm), (1, .int S)]) hx hb dX1_leastLevel_42 hl (k := 0) rfl (nI_1 k) (by decide) rfl (fun ls hl => ?_)
              refine lv_goto (pc := 45) (tgt := 4) hx hb dX1_leastLevel_45 (by decide) ?_
              exact ih (k + 1) a (by omega) (by omega) (by rw [bv_ll, ← hi, if_neg (fun q => q.2.elim h3 (Int32.not_lt.mpr h4))]) ls (lv_sub hl [0, 1, 2, 3] rfl)
            · have h4 := c32_6
              refine lv_aload_n (pc := 35) hx hb dX1_leastLevel_35 rfl (lv_at hl 2 rfl) ?_
              refine va_get (pc := 36) (D := G) (ci := 1) (v := .ref al) (C := RX1) (T := TX1) (N := 2) hx hb hts hw1 hown hK hP 0 rfl rfl 0 (by decide) hw0 (fun _ h9 => h9) rfl dX1_leastLevel_36 ?_
              refine lv_iload_n (pc := 39) hx hb dX1_leastLevel_39 rfl (lv_at hl 0 rfl) ?_
              refine bv_ial (pc := 40) hx hb hK hP 1 0 rfl rfl (by omega) (by omega) dX1_leastLevel_40 ?_
              refine lv_istore_n (pc := 41) (lv' := [(2, .int (lv k)), (3, .int (nI k)), (0, .ref xm), (1, .int S)]) hx hb dX1_leastLevel_41 rfl hl (by decide) rfl (fun ls hl => ?_)
              refine lv_iinc (pc := 42) (v := (nI (k + 1))) (lv' := [(3, .int (nI (k + 1))), (2, .int (lv k)), (0, .ref xm), (1, .int S)]) hx hb dX1_leastLevel_42 hl (k := 1) rfl (nI_1 k) (by decide) rfl (fun ls hl => ?_)
              refine lv_goto (pc := 45) (tgt := 4) hx hb dX1_leastLevel_45 (by decide) ?_
              exact ih (k + 1) (lv k) (by omega) (by omega) (by rw [bv_ll, ← hi, if_pos ⟨h2, Or.inr (Int32.not_le.mp h4)⟩]) ls (lv_sub hl [0, 1, 2, 3] rfl)
  exact loop_4 (16 - 0 + 1) 0 (-1) (Nat.lt_succ_self _) (Nat.zero_le _) rfl ls (lv_sub hl [0, 1, 2, 3] rfl)
set_option maxHeartbeats 4000000 in
set_option maxRecDepth 100000 in
theorem m_X1_worldsAt (l : Launch) (G : va_G) (cI : ClassId) (xm al ak : Nat) (lv ks : Nat → Int32) (S x : Int32) : Met l yX1_worldsAt wsX1_worldsAt ({ frames := 1, cells := 0, slots := 0, locals := 21 }) (bv_P [.ref xm, .int S, .int x] G cI (fun H => va_P G vwCl [(xm, .inr (1, [.ref al, .ref ak])), (al, .inl (cI, 16, .inl lv)), (ak, .inl (cI, 16, .inl ks))] H)) (vp_Si (fun r9 : Int32 => r9 = (bv_wa lv S x 16))) 0 0 (fun _ => False) := by
  refine Met.ofW (cc := cX1_worldsAt) (maxL := 5) (ret := (some .int)) (by decide) rfl ?_
  intro p e s m args below meth c s₁ B hml hv
  obtain ⟨rfl, hP, hE⟩ := hv
  have hx := B.exec
  have hb := B.bytes
  have hr := B.returns
  have hts := atoms_spec (ws := wsX1_worldsAt) B.pre
  have hown : s.vm.findClass RX1 = some m.cls := findClass_of_methodNamed B.named
  have hlocks := B.notSynchronized
  have hK := hE.1
  have hw0 := hts (.fieldLink RX1 9 "BeliefReviser$Mind" "levels" "[I") (List.mem_of_getElem? (i := 1) rfl)
  have hw1 : ∀ w ∈ u_ws RX1 TX1 2, w ∈ wsX1_worldsAt := by decide +kernel
  have hw2 := hts (.static yX3_has) (List.mem_of_getElem? (i := 2) rfl)
  have hw3 := hts (.initialized RX3) (List.mem_of_getElem? (i := 3) rfl)
  have hw4 : va_Nw (.methodLinkNest RX1 27 yX3_has RX3) s := hE.2 (RX1, 27, yX3_has) (List.mem_of_getElem? (i := 7) rfl)
  have hP : va_P G vwCl [(xm, .inr (1, [.ref al, .ref ak])), (al, .inl (cI, 16, .inl lv)), (ak, .inl (cI, 16, .inl ks))] s.heap := hP
  have hl := lv_entry ([.ref xm, .int S, .int x]) (n := 5) (Nat.le_of_ble_eq_true rfl)
  rw [lg_entry_eq]
  generalize (lg_sl ([.ref xm, .int S, .int x]) ++ List.replicate (5 - (lg_sl ([.ref xm, .int S, .int x])).length) Slot.unset).toArray = ls at hl ⊢
  have hl : lv_has ls 5 [(0, .ref xm), (1, .int S), (2, .int x)] := hl
  refine lv_iconst (pc := 0) (v := 0) hx hb dX1_worldsAt_0 (by decide) ?_
  refine lv_istore_n (pc := 1) (lv' := [(3, .int 0), (0, .ref xm), (1, .int S), (2, .int x)]) hx hb dX1_worldsAt_1 rfl hl (by decide) rfl (fun ls hl => ?_)
  refine lv_iconst (pc := 2) (v := 0) hx hb dX1_worldsAt_2 (by decide) ?_
  refine lv_istore (pc := 3) (lv' := [(4, .int 0), (3, .int 0), (0, .ref xm), (1, .int S), (2, .int x)]) hx hb dX1_worldsAt_3 hl (by decide) rfl (fun ls hl => ?_)
  have loop_5 : ∀ (fu9 : Nat) (k : Nat) (a : Int32), 16 - k < fu9 → (k ≤ 16) → (a = bv_wa lv S x k) → ∀ (ls : Array Slot), lv_has ls 5 [(4, .int (nI k)), (3, .int a), (0, .ref xm), (1, .int S), (2, .int x)] → W p l e (headSpec wsX1_worldsAt ({ frames := 1, cells := 0, slots := 0, locals := 21 })).room s m ([.ref xm, .int S, .int x] : List Value).toArray below meth c s.heap [] 0 0 (MQ below (vp_Si (fun r9 : Int32 => r9 = (bv_wa lv S x 16))) ([.ref xm, .int S, .int x] : List Value).toArray s 0 0 (fun _ => False)) (F0 m 5 ls []) := by
    intro fu9
    induction fu9 with
    | zero => intro k a hfu; exact absurd hfu (Nat.not_lt_zero _)
    | succ fu9 ih =>
      intro k a hfu hk hi ls hl
      refine lv_iload (pc := 5) hx hb dX1_worldsAt_5 (lv_at hl 0 rfl) ?_
      refine lv_aload_n (pc := 7) hx hb dX1_worldsAt_7 rfl (lv_at hl 2 rfl) ?_
      refine va_get (pc := 8) (D := G) (ci := 1) (v := .ref al) (C := RX1) (T := TX1) (N := 2) hx hb hts hw1 hown hK hP 0 rfl rfl 0 (by decide) hw0 (fun _ h9 => h9) rfl dX1_worldsAt_8 ?_
      refine va_alen (pc := 11) (v := (nI 16)) hx hb hK hP 1 0 rfl rfl rfl dX1_worldsAt_11 ?_
      refine lv_icmp_ge (pc := 12) (tgt := 48) hx hb dX1_worldsAt_12 (by decide) (fun c12_1 => ?_) (fun c12_1 => ?_)
      · have hkn : 16 = k := by
          by_cases h : k < 16
          · exact absurd c12_1 (nI_ge h (by omega))
          · omega
        subst hkn
        refine lv_iload_n (pc := 48) hx hb dX1_worldsAt_48 rfl (lv_at hl 1 rfl) ?_
        exact W.iret (pc := 49) (v := a) hx hb hr (fun T8 hT8 hW8 => ⟨a, rfl, hi, hT8⟩) (fun _ h => nomatch h) dX1_worldsAt_49
      · have hkn : k < 16 := by
          by_cases h : k < 16
          · exact h
          · exact absurd (nI_le (by omega) (by omega)) c12_1
        refine lv_iload_n (pc := 15) hx hb dX1_worldsAt_15 rfl (lv_at hl 3 rfl) ?_
        refine lv_iload (pc := 16) hx hb dX1_worldsAt_16 (lv_at hl 0 rfl) ?_
        have hPc := hP.sub (ws' := []) [] rfl
        refine bv_cSi (pc := 18) (E' := (bv_b (bv_has S (nI k)))) (va_runSN (As := [.int S, .int (nI k)]) (rest := []) ⟨hx, hb, hml, hown, hts⟩ (m_X3_has l G cI S (nI k) ) ⟨va_cnB 2 hts gX1_worldsAt_X3_has_n27 rfl rfl rfl hw4 hw3 (by decide +kernel) ⟨Nat.le_of_ble_eq_true rfl, Nat.le_of_ble_eq_true rfl⟩, hw2, trivial⟩ (bv_pS hE hPc) rfl rfl hl.1 rfl (lv_room (Nat.le_of_ble_eq_true rfl)) dX1_worldsAt_18 ⟨Nat.le_of_ble_eq_true rfl, Nat.le_of_ble_eq_true rfl⟩) rfl ?_
        refine lv_if_eq (pc := 21) (tgt := 42) hx hb dX1_worldsAt_21 (by decide) (fun c21_4 => ?_) (fun c21_4 => ?_)
        · have h2 := bv_b0.mp c21_4
          refine lv_iinc (pc := 42) (v := (nI (k + 1))) (lv' := [(4, .int (nI (k + 1))), (3, .int a), (0, .ref xm), (1, .int S), (2, .int x)]) hx hb dX1_worldsAt_42 hl (k := 0) rfl (nI_1 k) (by decide) rfl (fun ls hl => ?_)
          refine lv_goto (pc := 45) (tgt := 5) hx hb dX1_worldsAt_45 (by decide) ?_
          exact ih (k + 1) a (by omega) (by omega) (by rw [bv_wa, ← hi, if_neg (fun q => by rw [h2] at q; exact absurd q.1 (by decide))]) ls (lv_sub hl [0, 1, 2, 3, 4] rfl)
        · have h2 := bv_b1.mp c21_4
          refine lv_aload_n (pc := 24) hx hb dX1_worldsAt_24 rfl (lv_at hl 2 rfl) ?_
          refine va_get (pc := 25) (D := G) (ci := 1) (v := .ref al) (C := RX1) (T := TX1) (N := 2) hx hb hts hw1 hown hK hP 0 rfl rfl 0 (by decide) hw0 (fun _ h9 => h9) rfl dX1_worldsAt_25 ?_
          refine lv_iload (pc := 28) hx hb dX1_worldsAt_28 (lv_at hl 0 rfl) ?_
          refine bv_ial (pc := 30) hx hb hK hP 1 0 rfl rfl (by omega) (by omega) dX1_worldsAt_30 ?_
          refine lv_iload_n (pc := 31) hx hb dX1_worldsAt_31 rfl (lv_at hl 4 rfl) ?_
          refine lv_icmp_ne (pc := 32) (tgt := 42) hx hb dX1_worldsAt_32 (by decide) (fun c32_5 => ?_) (fun c32_5 => ?_)
          · have h3 := c32_5
            refine lv_iinc (pc := 42) (v := (nI (k + 1))) (lv' := [(4, .int (nI (k + 1))), (3, .int a), (0, .ref xm), (1, .int S), (2, .int x)]) hx hb dX1_worldsAt_42 hl (k := 0) rfl (nI_1 k) (by decide) rfl (fun ls hl => ?_)
            refine lv_goto (pc := 45) (tgt := 5) hx hb dX1_worldsAt_45 (by decide) ?_
            exact ih (k + 1) a (by omega) (by omega) (by rw [bv_wa, ← hi, if_neg (fun q => h3 q.2)]) ls (lv_sub hl [0, 1, 2, 3, 4] rfl)
          · have h3 := c32_5
            refine lv_iload_n (pc := 35) hx hb dX1_worldsAt_35 rfl (lv_at hl 1 rfl) ?_
            refine lv_iconst (pc := 36) (v := 1) hx hb dX1_worldsAt_36 (by decide) ?_
            refine lv_iload (pc := 37) hx hb dX1_worldsAt_37 (lv_at hl 0 rfl) ?_
            refine lv_ishl (pc := 39) hx hb dX1_worldsAt_39 ?_
            refine lv_ior (pc := 40) hx hb dX1_worldsAt_40 ?_
            refine lv_istore_n (pc := 41) (lv' := [(3, .int (a ||| (1 <<< ((nI k) &&& 31)))), (4, .int (nI k)), (0, .ref xm), (1, .int S), (2, .int x)]) hx hb dX1_worldsAt_41 rfl hl (by decide) rfl (fun ls hl => ?_)
            refine lv_iinc (pc := 42) (v := (nI (k + 1))) (lv' := [(4, .int (nI (k + 1))), (3, .int (a ||| (1 <<< ((nI k) &&& 31)))), (0, .ref xm), (1, .int S), (2, .int x)]) hx hb dX1_worldsAt_42 hl (k := 1) rfl (nI_1 k) (by decide) rfl (fun ls hl => ?_)
            refine lv_goto (pc := 45) (tgt := 5) hx hb dX1_worldsAt_45 (by decide) ?_
            exact ih (k + 1) (a ||| (1 <<< ((nI k) &&& 31))) (by omega) (by omega) (by rw [bv_wa, ← hi, if_pos ⟨h2, h3⟩]) ls (lv_sub hl [0, 1, 2, 3, 4] rfl)
  exact loop_5 (16 - 0 + 1) 0 0 (Nat.lt_succ_self _) (Nat.zero_le _) rfl ls (lv_sub hl [0, 1, 2, 3, 4] rfl)
set_option maxHeartbeats 4000000 in
set_option maxRecDepth 100000 in
theorem m_X1_open (l : Launch) (G : va_G) (cI : ClassId) (xm al ak : Nat) (lv ks : Nat → Int32) : Met l yX1_open wsX1_open ({ frames := 2, cells := 0, slots := 0, locals := 45 }) (bv_P [.ref xm] G cI (fun H => va_P G vwCl [(xm, .inr (1, [.ref al, .ref ak])), (al, .inl (cI, 16, .inl lv)), (ak, .inl (cI, 16, .inl ks))] H)) (vp_Si (fun r9 : Int32 => r9 = (bv_open lv))) 0 0 (fun _ => False) := by
  refine Met.ofW (cc := cX1_open) (maxL := 1) (ret := (some .int)) (by decide) rfl ?_
  intro p e s m args below meth c s₁ B hml hv
  obtain ⟨rfl, hP, hE⟩ := hv
  have hx := B.exec
  have hb := B.bytes
  have hr := B.returns
  have hts := atoms_spec (ws := wsX1_open) B.pre
  have hown : s.vm.findClass RX1 = some m.cls := findClass_of_methodNamed B.named
  have hlocks := B.notSynchronized
  have hK := hE.1
  have hw0 := hts (.constant RX1 22 65535) (List.mem_of_getElem? (i := 1) rfl)
  have hP : va_P G vwCl [(xm, .inr (1, [.ref al, .ref ak])), (al, .inl (cI, 16, .inl lv)), (ak, .inl (cI, 16, .inl ks))] s.heap := hP
  have hl := lv_entry ([.ref xm]) (n := 1) (Nat.le_of_ble_eq_true rfl)
  rw [lg_entry_eq]
  generalize (lg_sl ([.ref xm]) ++ List.replicate (1 - (lg_sl ([.ref xm])).length) Slot.unset).toArray = ls at hl ⊢
  have hl : lv_has ls 1 [(0, .ref xm)] := hl
  refine lv_aload_n (pc := 0) hx hb dX1_open_0 rfl (lv_at hl 0 rfl) ?_
  refine lv_ldc (pc := 1) hx hb hown hw0 dX1_open_1 ?_
  refine lv_iconst (pc := 3) (v := 0) hx hb dX1_open_3 (by decide) ?_
  have hPc := hP.sub (ws' := [(xm, .inr (1, [.ref al, .ref ak])), (al, .inl (cI, 16, .inl lv)), (ak, .inl (cI, 16, .inl ks))]) [0, 1, 2] rfl
  refine bv_cSi (pc := 4) (E' := (bv_wa lv 65535 0 16)) (va_runV (As := [.int 65535, .int 0]) (rest := []) ⟨hx, hb, hml, hown, hts⟩ (m_X1_worldsAt l G cI xm al ak lv ks 65535 0 ) (cwV 2 hts gX1_open_X1_worldsAt rfl rfl rfl (by decide +kernel) ⟨Nat.le_of_ble_eq_true rfl, Nat.le_of_ble_eq_true rfl⟩) (bv_pV hE hPc (va_recv hK hP (ci := 1) (q0 := 0) rfl rfl)) rfl rfl hl.1 rfl (lv_room (Nat.le_of_ble_eq_true rfl)) dX1_open_4 ⟨Nat.le_of_ble_eq_true rfl, Nat.le_of_ble_eq_true rfl⟩) rfl ?_
  exact W.iret (pc := 7) (v := (bv_wa lv 65535 0 16)) hx hb hr (fun T8 hT8 hW8 => ⟨(bv_wa lv 65535 0 16), rfl, rfl, hT8⟩) (fun _ h => nomatch h) dX1_open_7
set_option maxHeartbeats 4000000 in
set_option maxRecDepth 100000 in
theorem m_X1_mostPlausible (l : Launch) (G : va_G) (cI : ClassId) (xm al ak : Nat) (lv ks : Nat → Int32) (S : Int32) : Met l yX1_mostPlausible wsX1_mostPlausible ({ frames := 2, cells := 0, slots := 0, locals := 45 }) (bv_P [.ref xm, .int S] G cI (fun H => va_P G vwCl [(xm, .inr (1, [.ref al, .ref ak])), (al, .inl (cI, 16, .inl lv)), (ak, .inl (cI, 16, .inl ks))] H)) (vp_Si (fun r9 : Int32 => r9 = (bv_mp lv S))) 0 0 (fun _ => False) := by
  refine Met.ofW (cc := cX1_mostPlausible) (maxL := 2) (ret := (some .int)) (by decide) rfl ?_
  intro p e s m args below meth c s₁ B hml hv
  obtain ⟨rfl, hP, hE⟩ := hv
  have hx := B.exec
  have hb := B.bytes
  have hr := B.returns
  have hts := atoms_spec (ws := wsX1_mostPlausible) B.pre
  have hown : s.vm.findClass RX1 = some m.cls := findClass_of_methodNamed B.named
  have hlocks := B.notSynchronized
  have hK := hE.1
  have hP : va_P G vwCl [(xm, .inr (1, [.ref al, .ref ak])), (al, .inl (cI, 16, .inl lv)), (ak, .inl (cI, 16, .inl ks))] s.heap := hP
  have hl := lv_entry ([.ref xm, .int S]) (n := 2) (Nat.le_of_ble_eq_true rfl)
  rw [lg_entry_eq]
  generalize (lg_sl ([.ref xm, .int S]) ++ List.replicate (2 - (lg_sl ([.ref xm, .int S])).length) Slot.unset).toArray = ls at hl ⊢
  have hl : lv_has ls 2 [(0, .ref xm), (1, .int S)] := hl
  refine lv_aload_n (pc := 0) hx hb dX1_mostPlausible_0 rfl (lv_at hl 0 rfl) ?_
  refine lv_iload_n (pc := 1) hx hb dX1_mostPlausible_1 rfl (lv_at hl 1 rfl) ?_
  refine lv_aload_n (pc := 2) hx hb dX1_mostPlausible_2 rfl (lv_at hl 0 rfl) ?_
  refine lv_iload_n (pc := 3) hx hb dX1_mostPlausible_3 rfl (lv_at hl 1 rfl) ?_
  have hPc := hP.sub (ws' := [(xm, .inr (1, [.ref al, .ref ak])), (al, .inl (cI, 16, .inl lv)), (ak, .inl (cI, 16, .inl ks))]) [0, 1, 2] rfl
  refine bv_cSi (pc := 4) (E' := (bv_ll lv S 16)) (va_runV (As := [.int S]) (rest := [.int S, .ref xm]) ⟨hx, hb, hml, hown, hts⟩ (m_X1_leastLevel l G cI xm al ak lv ks S ) (cwV 1 hts gX1_mostPlausible_X1_leastLevel rfl rfl rfl (by decide +kernel) ⟨Nat.le_of_ble_eq_true rfl, Nat.le_of_ble_eq_true rfl⟩) (bv_pV hE hPc (va_recv hK hP (ci := 1) (q0 := 0) rfl rfl)) rfl rfl hl.1 rfl (lv_room (Nat.le_of_ble_eq_true rfl)) dX1_mostPlausible_4 ⟨Nat.le_of_ble_eq_true rfl, Nat.le_of_ble_eq_true rfl⟩) rfl ?_
  have hPc := hP.sub (ws' := [(xm, .inr (1, [.ref al, .ref ak])), (al, .inl (cI, 16, .inl lv)), (ak, .inl (cI, 16, .inl ks))]) [0, 1, 2] rfl
  refine bv_cSi (pc := 7) (E' := (bv_wa lv S (bv_ll lv S 16) 16)) (va_runV (As := [.int S, .int (bv_ll lv S 16)]) (rest := []) ⟨hx, hb, hml, hown, hts⟩ (m_X1_worldsAt l G cI xm al ak lv ks S (bv_ll lv S 16) ) (cwV 2 hts gX1_mostPlausible_X1_worldsAt rfl rfl rfl (by decide +kernel) ⟨Nat.le_of_ble_eq_true rfl, Nat.le_of_ble_eq_true rfl⟩) (bv_pV hE hPc (va_recv hK hP (ci := 1) (q0 := 0) rfl rfl)) rfl rfl hl.1 rfl (lv_room (Nat.le_of_ble_eq_true rfl)) dX1_mostPlausible_7 ⟨Nat.le_of_ble_eq_true rfl, Nat.le_of_ble_eq_true rfl⟩) rfl ?_
  exact W.iret (pc := 10) (v := (bv_wa lv S (bv_ll lv S 16) 16)) hx hb hr (fun T8 hT8 hW8 => ⟨(bv_wa lv S (bv_ll lv S 16) 16), rfl, rfl, hT8⟩) (fun _ h => nomatch h) dX1_mostPlausible_10
set_option maxHeartbeats 4000000 in
set_option maxRecDepth 100000 in
theorem m_X1_greatestLevel (l : Launch) (G : va_G) (cI : ClassId) (xm al ak : Nat) (lv ks : Nat → Int32) : Met l yX1_greatestLevel wsX1_greatestLevel ({ frames := 1, cells := 0, slots := 0, locals := 21 }) (bv_P [.ref xm] G cI (fun H => va_P G vwCl [(xm, .inr (1, [.ref al, .ref ak])), (al, .inl (cI, 16, .inl lv)), (ak, .inl (cI, 16, .inl ks))] H)) (vp_Si (fun r9 : Int32 => r9 = (bv_gl lv 16))) 0 0 (fun _ => False) := by
  refine Met.ofW (cc := cX1_greatestLevel) (maxL := 3) (ret := (some .int)) (by decide) rfl ?_
  intro p e s m args below meth c s₁ B hml hv
  obtain ⟨rfl, hP, hE⟩ := hv
  have hx := B.exec
  have hb := B.bytes
  have hr := B.returns
  have hts := atoms_spec (ws := wsX1_greatestLevel) B.pre
  have hown : s.vm.findClass RX1 = some m.cls := findClass_of_methodNamed B.named
  have hlocks := B.notSynchronized
  have hK := hE.1
  have hw0 := hts (.fieldLink RX1 9 "BeliefReviser$Mind" "levels" "[I") (List.mem_of_getElem? (i := 1) rfl)
  have hw1 : ∀ w ∈ u_ws RX1 TX1 2, w ∈ wsX1_greatestLevel := by decide +kernel
  have hw2 := hts (.methodLink RX1 70 Lib.Math.max.name) (List.mem_of_getElem? (i := 2) rfl)
  have hw3 := hts (.static Lib.Math.max.name) (List.mem_of_getElem? (i := 3) rfl)
  have hw4 := hts (.initialized "java/lang/Math") (List.mem_of_getElem? (i := 4) rfl)
  have hw5 := hts (.code Lib.Math.max.name Lib.Math.max.code 2 (some .int)) (List.mem_of_getElem? (i := 5) rfl)
  have hP : va_P G vwCl [(xm, .inr (1, [.ref al, .ref ak])), (al, .inl (cI, 16, .inl lv)), (ak, .inl (cI, 16, .inl ks))] s.heap := hP
  have hl := lv_entry ([.ref xm]) (n := 3) (Nat.le_of_ble_eq_true rfl)
  rw [lg_entry_eq]
  generalize (lg_sl ([.ref xm]) ++ List.replicate (3 - (lg_sl ([.ref xm])).length) Slot.unset).toArray = ls at hl ⊢
  have hl : lv_has ls 3 [(0, .ref xm)] := hl
  refine lv_iconst (pc := 0) (v := 0) hx hb dX1_greatestLevel_0 (by decide) ?_
  refine lv_istore_n (pc := 1) (lv' := [(1, .int 0), (0, .ref xm)]) hx hb dX1_greatestLevel_1 rfl hl (by decide) rfl (fun ls hl => ?_)
  refine lv_iconst (pc := 2) (v := 0) hx hb dX1_greatestLevel_2 (by decide) ?_
  refine lv_istore_n (pc := 3) (lv' := [(2, .int 0), (1, .int 0), (0, .ref xm)]) hx hb dX1_greatestLevel_3 rfl hl (by decide) rfl (fun ls hl => ?_)
  have loop_4 : ∀ (fu9 : Nat) (k : Nat) (a : Int32), 16 - k < fu9 → (k ≤ 16) → (a = bv_gl lv k) → ∀ (ls : Array Slot), lv_has ls 3 [(2, .int (nI k)), (1, .int a), (0, .ref xm)] → W p l e (headSpec wsX1_greatestLevel ({ frames := 1, cells := 0, slots := 0, locals := 21 })).room s m ([.ref xm] : List Value).toArray below meth c s.heap [] 0 0 (MQ below (vp_Si (fun r9 : Int32 => r9 = (bv_gl lv 16))) ([.ref xm] : List Value).toArray s 0 0 (fun _ => False)) (F0 m 4 ls []) := by
    intro fu9
    induction fu9 with
    | zero => intro k a hfu; exact absurd hfu (Nat.not_lt_zero _)
    | succ fu9 ih =>
      intro k a hfu hk hi ls hl
      refine lv_iload_n (pc := 4) hx hb dX1_greatestLevel_4 rfl (lv_at hl 0 rfl) ?_
      refine lv_aload_n (pc := 5) hx hb dX1_greatestLevel_5 rfl (lv_at hl 2 rfl) ?_
      refine va_get (pc := 6) (D := G) (ci := 1) (v := .ref al) (C := RX1) (T := TX1) (N := 2) hx hb hts hw1 hown hK hP 0 rfl rfl 0 (by decide) hw0 (fun _ h9 => h9) rfl dX1_greatestLevel_6 ?_
      refine va_alen (pc := 9) (v := (nI 16)) hx hb hK hP 1 0 rfl rfl rfl dX1_greatestLevel_9 ?_
      refine lv_icmp_ge (pc := 10) (tgt := 30) hx hb dX1_greatestLevel_10 (by decide) (fun c10_1 => ?_) (fun c10_1 => ?_)
      · have hkn : 16 = k := by
          by_cases h : k < 16
          · exact absurd c10_1 (nI_ge h (by omega))
          · omega
        subst hkn
        refine lv_iload_n (pc := 30) hx hb dX1_greatestLevel_30 rfl (lv_at hl 1 rfl) ?_
        exact W.iret (pc := 31) (v := a) hx hb hr (fun T8 hT8 hW8 => ⟨a, rfl, hi, hT8⟩) (fun _ h => nomatch h) dX1_greatestLevel_31
      · have hkn : k < 16 := by
          by_cases h : k < 16
          · exact h
          · exact absurd (nI_le (by omega) (by omega)) c10_1
        refine lv_iload_n (pc := 13) hx hb dX1_greatestLevel_13 rfl (lv_at hl 1 rfl) ?_
        refine lv_aload_n (pc := 14) hx hb dX1_greatestLevel_14 rfl (lv_at hl 2 rfl) ?_
        refine va_get (pc := 15) (D := G) (ci := 1) (v := .ref al) (C := RX1) (T := TX1) (N := 2) hx hb hts hw1 hown hK hP 0 rfl rfl 0 (by decide) hw0 (fun _ h9 => h9) rfl dX1_greatestLevel_15 ?_
        refine lv_iload_n (pc := 18) hx hb dX1_greatestLevel_18 rfl (lv_at hl 0 rfl) ?_
        refine bv_ial (pc := 19) hx hb hK hP 1 0 rfl rfl (by omega) (by omega) dX1_greatestLevel_19 ?_
        refine va_mmax (pc := 20) hx hb (hml.trans hl.1.symm) hown hw2 hw3 hw4 hw5 (Nat.le_of_ble_eq_true rfl) (Nat.le_of_ble_eq_true rfl) (Nat.le_of_ble_eq_true rfl) (Nat.le_of_ble_eq_true rfl) dX1_greatestLevel_20 ?_
        rw [show (if a < (lv k) then (lv k) else a) = (bv_max a (lv k)) from rfl]
        refine lv_istore_n (pc := 23) (lv' := [(1, .int (bv_max a (lv k))), (2, .int (nI k)), (0, .ref xm)]) hx hb dX1_greatestLevel_23 rfl hl (by decide) rfl (fun ls hl => ?_)
        refine lv_iinc (pc := 24) (v := (nI (k + 1))) (lv' := [(2, .int (nI (k + 1))), (1, .int (bv_max a (lv k))), (0, .ref xm)]) hx hb dX1_greatestLevel_24 hl (k := 1) rfl (nI_1 k) (by decide) rfl (fun ls hl => ?_)
        refine lv_goto (pc := 27) (tgt := 4) hx hb dX1_greatestLevel_27 (by decide) ?_
        exact ih (k + 1) (bv_max a (lv k)) (by omega) (by omega) (by rw [bv_gl, ← hi]) ls (lv_sub hl [0, 1, 2] rfl)
  exact loop_4 (16 - 0 + 1) 0 0 (Nat.lt_succ_self _) (Nat.zero_le _) rfl ls (lv_sub hl [0, 1, 2] rfl)
set_option maxHeartbeats 4000000 in
set_option maxRecDepth 100000 in
theorem m_X1_shift (l : Launch) (G : va_G) (cI : ClassId) (sz : Nat) (xm al ak : Nat) (lv ks : Nat → Int32) (S d : Int32) : Met l yX1_shift wsX1_shift ({ frames := 1, cells := 0, slots := 0, locals := 21 }) (bv_P [.ref xm, .int S, .int d] G cI (fun H => H.size = sz ∧ va_P G vwCl [(xm, .inr (1, [.ref al, .ref ak])), (al, .inl (cI, 16, .inl lv)), (ak, .inl (cI, 16, .inl ks))] H ∧ va_D (fun _ => True) [(xm, .inr (1, [.ref al, .ref ak])), (al, .inl (cI, 16, .inl lv)), (ak, .inl (cI, 16, .inl ks))])) (va_Qv (fun _ : Unit => True) (fun (_ : Unit) (T9 : State) => va_P G vwCl [(xm, .inr (1, [.ref al, .ref ak])), (al, .inl (cI, 16, .inl (bv_sh lv S d 16))), (ak, .inl (cI, 16, .inl ks))] T9.heap) (va_A [(xm, .inr (1, [.ref al, .ref ak])), (al, .inl (cI, 16, .inl lv)), (ak, .inl (cI, 16, .inl ks))] sz)) 0 0 (va_A [(xm, .inr (1, [.ref al, .ref ak])), (al, .inl (cI, 16, .inl lv)), (ak, .inl (cI, 16, .inl ks))] sz) := by
  refine Met.ofW (cc := cX1_shift) (maxL := 4) (ret := none) (by decide) rfl ?_
  intro p e s m args below meth c s₁ B hml hv
  obtain ⟨rfl, ⟨hsz, hP, hD0⟩, hE⟩ := hv
  have hx := B.exec
  have hb := B.bytes
  have hr := B.returns
  have hts := atoms_spec (ws := wsX1_shift) B.pre
  have hown : s.vm.findClass RX1 = some m.cls := findClass_of_methodNamed B.named
  have hlocks := B.notSynchronized
  have hK := hE.1
  have hw0 := hts (.fieldLink RX1 9 "BeliefReviser$Mind" "levels" "[I") (List.mem_of_getElem? (i := 1) rfl)
  have hw1 : ∀ w ∈ u_ws RX1 TX1 2, w ∈ wsX1_shift := by decide +kernel
  have hw2 := hts (.static yX3_has) (List.mem_of_getElem? (i := 2) rfl)
  have hw3 := hts (.initialized RX3) (List.mem_of_getElem? (i := 3) rfl)
  have hw4 : va_Nw (.methodLinkNest RX1 27 yX3_has RX3) s := hE.2 (RX1, 27, yX3_has) (List.mem_of_getElem? (i := 7) rfl)
  subst hsz
  have hD := hD0.self (sz := s.heap.size)
  generalize hAe : va_A [(xm, .inr (1, [.ref al, .ref ak])), (al, .inl (cI, 16, .inl lv)), (ak, .inl (cI, 16, .inl ks))] s.heap.size = A at hD ⊢
  have hA : ∀ q : Nat, s.heap.size ≤ q → A q := fun q h => by rw [← hAe]; exact Or.inr h
  have hS : va_S A s.heap s.heap [] := va_S.rf
  have hP : va_P G vwCl [(xm, .inr (1, [.ref al, .ref ak])), (al, .inl (cI, 16, .inl lv)), (ak, .inl (cI, 16, .inl ks))] s.heap := hP
  have hl := lv_entry ([.ref xm, .int S, .int d]) (n := 4) (Nat.le_of_ble_eq_true rfl)
  rw [lg_entry_eq]
  generalize (lg_sl ([.ref xm, .int S, .int d]) ++ List.replicate (4 - (lg_sl ([.ref xm, .int S, .int d])).length) Slot.unset).toArray = ls at hl ⊢
  have hl : lv_has ls 4 [(0, .ref xm), (1, .int S), (2, .int d)] := hl
  refine lv_iconst (pc := 0) (v := 0) hx hb dX1_shift_0 (by decide) ?_
  refine lv_istore_n (pc := 1) (lv' := [(3, .int 0), (0, .ref xm), (1, .int S), (2, .int d)]) hx hb dX1_shift_1 rfl hl (by decide) rfl (fun ls hl => ?_)
  have loop_2 : ∀ (fu9 : Nat) (k : Nat), 16 - k < fu9 → (k ≤ 16) → ∀ (H : Heap) (locs : List Loc), va_P G vwCl [(xm, .inr (1, [.ref al, .ref ak])), (al, .inl (cI, 16, .inl (bv_sh lv S d k))), (ak, .inl (cI, 16, .inl ks))] H → va_D A [(xm, .inr (1, [.ref al, .ref ak])), (al, .inl (cI, 16, .inl (bv_sh lv S d k))), (ak, .inl (cI, 16, .inl ks))] → va_S A s.heap H locs → ∀ (ls : Array Slot), lv_has ls 4 [(3, .int (nI k)), (0, .ref xm), (1, .int S), (2, .int d)] → W p l e (headSpec wsX1_shift ({ frames := 1, cells := 0, slots := 0, locals := 21 })).room s m ([.ref xm, .int S, .int d] : List Value).toArray below meth c H locs 0 0 (MQ below (va_Qv (fun _ : Unit => True) (fun (_ : Unit) (T9 : State) => va_P G vwCl [(xm, .inr (1, [.ref al, .ref ak])), (al, .inl (cI, 16, .inl (bv_sh lv S d 16))), (ak, .inl (cI, 16, .inl ks))] T9.heap) A) ([.ref xm, .int S, .int d] : List Value).toArray s 0 0 A) (F0 m 2 ls []) := by
    intro fu9
    induction fu9 with
    | zero => intro k hfu; exact absurd hfu (Nat.not_lt_zero _)
    | succ fu9 ih =>
      intro k hfu hk H locs hP hD hS ls hl
      refine lv_iload_n (pc := 2) hx hb dX1_shift_2 rfl (lv_at hl 0 rfl) ?_
      refine lv_aload_n (pc := 3) hx hb dX1_shift_3 rfl (lv_at hl 1 rfl) ?_
      refine va_get (pc := 4) (D := G) (ci := 1) (v := .ref al) (C := RX1) (T := TX1) (N := 2) hx hb hts hw1 hown hK hP 0 rfl rfl 0 (by decide) hw0 (fun _ h9 => h9) rfl dX1_shift_4 ?_
      refine va_alen (pc := 7) (v := (nI 16)) hx hb hK hP 1 0 rfl rfl rfl dX1_shift_7 ?_
      refine lv_icmp_ge (pc := 8) (tgt := 35) hx hb dX1_shift_8 (by decide) (fun c8_1 => ?_) (fun c8_1 => ?_)
      · have hkn : 16 = k := by
          by_cases h : k < 16
          · exact absurd c8_1 (nI_ge h (by omega))
          · omega
        subst hkn
        have hP9 : va_P G vwCl [(xm, .inr (1, [.ref al, .ref ak])), (al, .inl (cI, 16, .inl (bv_sh lv S d 16))), (ak, .inl (cI, 16, .inl ks))] H := hP
        exact W.vret (pc := 35) hx hb hr (fun T8 hT8 hW8 => ⟨⟨(), rfl, trivial, bv_hP hT8 hP9⟩, hS.F hT8⟩) hS.2.2 dX1_shift_35
      · have hkn : k < 16 := by
          by_cases h : k < 16
          · exact h
          · exact absurd (nI_le (by omega) (by omega)) c8_1
        refine lv_iload_n (pc := 11) hx hb dX1_shift_11 rfl (lv_at hl 2 rfl) ?_
        refine lv_iload_n (pc := 12) hx hb dX1_shift_12 rfl (lv_at hl 0 rfl) ?_
        have hPc := hP.sub (ws' := []) [] rfl
        refine bv_cSi (pc := 13) (E' := (bv_b (bv_has S (nI k)))) (va_runSN (As := [.int S, .int (nI k)]) (rest := []) ⟨hx, hb, hml, hown, hts⟩ (m_X3_has l G cI S (nI k) ) ⟨va_cnB 2 hts gX1_shift_X3_has_n27 rfl rfl rfl hw4 hw3 (by decide +kernel) ⟨Nat.le_of_ble_eq_true rfl, Nat.le_of_ble_eq_true rfl⟩, hw2, trivial⟩ (bv_pS hE hPc) rfl rfl hl.1 rfl (lv_room (Nat.le_of_ble_eq_true rfl)) dX1_shift_13 ⟨Nat.le_of_ble_eq_true rfl, Nat.le_of_ble_eq_true rfl⟩) rfl ?_
        refine lv_if_eq (pc := 16) (tgt := 29) hx hb dX1_shift_16 (by decide) (fun c16_4 => ?_) (fun c16_4 => ?_)
        · have h2 := bv_b0.mp c16_4
          refine lv_iinc (pc := 29) (v := (nI (k + 1))) (lv' := [(3, .int (nI (k + 1))), (0, .ref xm), (1, .int S), (2, .int d)]) hx hb dX1_shift_29 hl (k := 0) rfl (nI_1 k) (by decide) rfl (fun ls hl => ?_)
          refine lv_goto (pc := 32) (tgt := 2) hx hb dX1_shift_32 (by decide) ?_
          rw [show (bv_sh lv S d k) = (bv_sh lv S d (k + 1)) from bv_sh_n h2] at hP hD
          exact ih (k + 1) (by omega) (by omega) H _ hP hD hS ls (lv_sub hl [0, 1, 2, 3] rfl)
        · have h2 := bv_b1.mp c16_4
          refine lv_aload_n (pc := 19) hx hb dX1_shift_19 rfl (lv_at hl 1 rfl) ?_
          refine va_get (pc := 20) (D := G) (ci := 1) (v := .ref al) (C := RX1) (T := TX1) (N := 2) hx hb hts hw1 hown hK hP 0 rfl rfl 0 (by decide) hw0 (fun _ h9 => h9) rfl dX1_shift_20 ?_
          refine lv_iload_n (pc := 23) hx hb dX1_shift_23 rfl (lv_at hl 0 rfl) ?_
          refine lv_dup2_11 (pc := 24) hx hb dX1_shift_24 rfl rfl ?_
          refine va_iald (pc := 25) hx hb hK hP 1 0 rfl rfl (vp_in_nI (by omega) (by decide)) dX1_shift_25 ?_
          rw [show ((bv_sh lv S d k) (nI k).toNatClampNeg) = (lv k) from by rw [nI_clamp (by omega)]; exact bv_sh_at]
          refine lv_iload_n (pc := 26) hx hb dX1_shift_26 rfl (lv_at hl 3 rfl) ?_
          refine lv_iadd (pc := 27) hx hb dX1_shift_27 ?_
          refine va_iast (pc := 28) hx hb hK hP hD hS 1 0 rfl rfl (vp_in_nI (by omega) (by decide)) dX1_shift_28 (fun H locs hP hD hS => ?_)
          have hP : va_P G vwCl [(xm, .inr (1, [.ref al, .ref ak])), (al, .inl (cI, 16, .inl (upd (bv_sh lv S d k) (nI k).toNatClampNeg ((lv k) + d)))), (ak, .inl (cI, 16, .inl ks))] H := hP
          have hD : va_D A [(xm, .inr (1, [.ref al, .ref ak])), (al, .inl (cI, 16, .inl (upd (bv_sh lv S d k) (nI k).toNatClampNeg ((lv k) + d)))), (ak, .inl (cI, 16, .inl ks))] := hD
          rw [show (upd (bv_sh lv S d k) (nI k).toNatClampNeg ((lv k) + d)) = (bv_sh lv S d (k + 1)) from by rw [nI_clamp (by omega)]; exact bv_sh_s h2] at hP hD
          refine lv_iinc (pc := 29) (v := (nI (k + 1))) (lv' := [(3, .int (nI (k + 1))), (0, .ref xm), (1, .int S), (2, .int d)]) hx hb dX1_shift_29 hl (k := 0) rfl (nI_1 k) (by decide) rfl (fun ls hl => ?_)
          refine lv_goto (pc := 32) (tgt := 2) hx hb dX1_shift_32 (by decide) ?_
          exact ih (k + 1) (by omega) (by omega) H _ hP hD hS ls (lv_sub hl [0, 1, 2, 3] rfl)
  rw [← bv_sh_0 (lv := lv) (S := S) (d := d)] at hP hD
  exact loop_2 (16 - 0 + 1) 0 (Nat.lt_succ_self _) (Nat.zero_le _) s.heap _ hP hD hS ls (lv_sub hl [0, 1, 2, 3] rfl)
set_option maxHeartbeats 4000000 in
set_option maxRecDepth 100000 in
theorem m_X1_bringForward (l : Launch) (G : va_G) (cI : ClassId) (sz : Nat) (xm al ak : Nat) (lv ks : Nat → Int32) (S : Int32) : Met l yX1_bringForward wsX1_bringForward ({ frames := 1, cells := 0, slots := 0, locals := 21 }) (bv_P [.ref xm, .int S] G cI (fun H => H.size = sz ∧ va_P G vwCl [(xm, .inr (1, [.ref al, .ref ak])), (al, .inl (cI, 16, .inl lv)), (ak, .inl (cI, 16, .inl ks))] H ∧ va_D (fun _ => True) [(xm, .inr (1, [.ref al, .ref ak])), (al, .inl (cI, 16, .inl lv)), (ak, .inl (cI, 16, .inl ks))])) (va_Qv (fun _ : Unit => True) (fun (_ : Unit) (T9 : State) => va_P G vwCl [(xm, .inr (1, [.ref al, .ref ak])), (al, .inl (cI, 16, .inl (bv_bf lv S 16))), (ak, .inl (cI, 16, .inl ks))] T9.heap) (va_A [(xm, .inr (1, [.ref al, .ref ak])), (al, .inl (cI, 16, .inl lv)), (ak, .inl (cI, 16, .inl ks))] sz)) 0 0 (va_A [(xm, .inr (1, [.ref al, .ref ak])), (al, .inl (cI, 16, .inl lv)), (ak, .inl (cI, 16, .inl ks))] sz) := by
  refine Met.ofW (cc := cX1_bringForward) (maxL := 3) (ret := none) (by decide) rfl ?_
  intro p e s m args below meth c s₁ B hml hv
  obtain ⟨rfl, ⟨hsz, hP, hD0⟩, hE⟩ := hv
  have hx := B.exec
  have hb := B.bytes
  have hr := B.returns
  have hts := atoms_spec (ws := wsX1_bringForward) B.pre
  have hown : s.vm.findClass RX1 = some m.cls := findClass_of_methodNamed B.named
  have hlocks := B.notSynchronized
  have hK := hE.1
  have hw0 := hts (.fieldLink RX1 9 "BeliefReviser$Mind" "levels" "[I") (List.mem_of_getElem? (i := 1) rfl)
  have hw1 : ∀ w ∈ u_ws RX1 TX1 2, w ∈ wsX1_bringForward := by decide +kernel
  have hw2 := hts (.static yX3_has) (List.mem_of_getElem? (i := 2) rfl)
  have hw3 := hts (.initialized RX3) (List.mem_of_getElem? (i := 3) rfl)
  have hw4 : va_Nw (.methodLinkNest RX1 27 yX3_has RX3) s := hE.2 (RX1, 27, yX3_has) (List.mem_of_getElem? (i := 7) rfl)
  subst hsz
  have hD := hD0.self (sz := s.heap.size)
  generalize hAe : va_A [(xm, .inr (1, [.ref al, .ref ak])), (al, .inl (cI, 16, .inl lv)), (ak, .inl (cI, 16, .inl ks))] s.heap.size = A at hD ⊢
  have hA : ∀ q : Nat, s.heap.size ≤ q → A q := fun q h => by rw [← hAe]; exact Or.inr h
  have hS : va_S A s.heap s.heap [] := va_S.rf
  have hP : va_P G vwCl [(xm, .inr (1, [.ref al, .ref ak])), (al, .inl (cI, 16, .inl lv)), (ak, .inl (cI, 16, .inl ks))] s.heap := hP
  have hl := lv_entry ([.ref xm, .int S]) (n := 3) (Nat.le_of_ble_eq_true rfl)
  rw [lg_entry_eq]
  generalize (lg_sl ([.ref xm, .int S]) ++ List.replicate (3 - (lg_sl ([.ref xm, .int S])).length) Slot.unset).toArray = ls at hl ⊢
  have hl : lv_has ls 3 [(0, .ref xm), (1, .int S)] := hl
  refine lv_iconst (pc := 0) (v := 0) hx hb dX1_bringForward_0 (by decide) ?_
  refine lv_istore_n (pc := 1) (lv' := [(2, .int 0), (0, .ref xm), (1, .int S)]) hx hb dX1_bringForward_1 rfl hl (by decide) rfl (fun ls hl => ?_)
  have loop_2 : ∀ (fu9 : Nat) (k : Nat), 16 - k < fu9 → (k ≤ 16) → ∀ (H : Heap) (locs : List Loc), va_P G vwCl [(xm, .inr (1, [.ref al, .ref ak])), (al, .inl (cI, 16, .inl (bv_bf lv S k))), (ak, .inl (cI, 16, .inl ks))] H → va_D A [(xm, .inr (1, [.ref al, .ref ak])), (al, .inl (cI, 16, .inl (bv_bf lv S k))), (ak, .inl (cI, 16, .inl ks))] → va_S A s.heap H locs → ∀ (ls : Array Slot), lv_has ls 3 [(2, .int (nI k)), (0, .ref xm), (1, .int S)] → W p l e (headSpec wsX1_bringForward ({ frames := 1, cells := 0, slots := 0, locals := 21 })).room s m ([.ref xm, .int S] : List Value).toArray below meth c H locs 0 0 (MQ below (va_Qv (fun _ : Unit => True) (fun (_ : Unit) (T9 : State) => va_P G vwCl [(xm, .inr (1, [.ref al, .ref ak])), (al, .inl (cI, 16, .inl (bv_bf lv S 16))), (ak, .inl (cI, 16, .inl ks))] T9.heap) A) ([.ref xm, .int S] : List Value).toArray s 0 0 A) (F0 m 2 ls []) := by
    intro fu9
    induction fu9 with
    | zero => intro k hfu; exact absurd hfu (Nat.not_lt_zero _)
    | succ fu9 ih =>
      intro k hfu hk H locs hP hD hS ls hl
      refine lv_iload_n (pc := 2) hx hb dX1_bringForward_2 rfl (lv_at hl 0 rfl) ?_
      refine lv_aload_n (pc := 3) hx hb dX1_bringForward_3 rfl (lv_at hl 1 rfl) ?_
      refine va_get (pc := 4) (D := G) (ci := 1) (v := .ref al) (C := RX1) (T := TX1) (N := 2) hx hb hts hw1 hown hK hP 0 rfl rfl 0 (by decide) hw0 (fun _ h9 => h9) rfl dX1_bringForward_4 ?_
      refine va_alen (pc := 7) (v := (nI 16)) hx hb hK hP 1 0 rfl rfl rfl dX1_bringForward_7 ?_
      refine lv_icmp_ge (pc := 8) (tgt := 32) hx hb dX1_bringForward_8 (by decide) (fun c8_1 => ?_) (fun c8_1 => ?_)
      · have hkn : 16 = k := by
          by_cases h : k < 16
          · exact absurd c8_1 (nI_ge h (by omega))
          · omega
        subst hkn
        have hP9 : va_P G vwCl [(xm, .inr (1, [.ref al, .ref ak])), (al, .inl (cI, 16, .inl (bv_bf lv S 16))), (ak, .inl (cI, 16, .inl ks))] H := hP
        exact W.vret (pc := 32) hx hb hr (fun T8 hT8 hW8 => ⟨⟨(), rfl, trivial, bv_hP hT8 hP9⟩, hS.F hT8⟩) hS.2.2 dX1_bringForward_32
      · have hkn : k < 16 := by
          by_cases h : k < 16
          · exact h
          · exact absurd (nI_le (by omega) (by omega)) c8_1
        refine lv_iload_n (pc := 11) hx hb dX1_bringForward_11 rfl (lv_at hl 2 rfl) ?_
        refine lv_iload_n (pc := 12) hx hb dX1_bringForward_12 rfl (lv_at hl 0 rfl) ?_
        have hPc := hP.sub (ws' := []) [] rfl
        refine bv_cSi (pc := 13) (E' := (bv_b (bv_has S (nI k)))) (va_runSN (As := [.int S, .int (nI k)]) (rest := []) ⟨hx, hb, hml, hown, hts⟩ (m_X3_has l G cI S (nI k) ) ⟨va_cnB 2 hts gX1_bringForward_X3_has_n27 rfl rfl rfl hw4 hw3 (by decide +kernel) ⟨Nat.le_of_ble_eq_true rfl, Nat.le_of_ble_eq_true rfl⟩, hw2, trivial⟩ (bv_pS hE hPc) rfl rfl hl.1 rfl (lv_room (Nat.le_of_ble_eq_true rfl)) dX1_bringForward_13 ⟨Nat.le_of_ble_eq_true rfl, Nat.le_of_ble_eq_true rfl⟩) rfl ?_
        refine lv_if_eq (pc := 16) (tgt := 26) hx hb dX1_bringForward_16 (by decide) (fun c16_4 => ?_) (fun c16_4 => ?_)
        · have h2 := bv_b0.mp c16_4
          refine lv_iinc (pc := 26) (v := (nI (k + 1))) (lv' := [(2, .int (nI (k + 1))), (0, .ref xm), (1, .int S)]) hx hb dX1_bringForward_26 hl (k := 0) rfl (nI_1 k) (by decide) rfl (fun ls hl => ?_)
          refine lv_goto (pc := 29) (tgt := 2) hx hb dX1_bringForward_29 (by decide) ?_
          rw [show (bv_bf lv S k) = (bv_bf lv S (k + 1)) from bv_bf_n h2] at hP hD
          exact ih (k + 1) (by omega) (by omega) H _ hP hD hS ls (lv_sub hl [0, 1, 2] rfl)
        · have h2 := bv_b1.mp c16_4
          refine lv_aload_n (pc := 19) hx hb dX1_bringForward_19 rfl (lv_at hl 1 rfl) ?_
          refine va_get (pc := 20) (D := G) (ci := 1) (v := .ref al) (C := RX1) (T := TX1) (N := 2) hx hb hts hw1 hown hK hP 0 rfl rfl 0 (by decide) hw0 (fun _ h9 => h9) rfl dX1_bringForward_20 ?_
          refine lv_iload_n (pc := 23) hx hb dX1_bringForward_23 rfl (lv_at hl 0 rfl) ?_
          refine lv_iconst (pc := 24) (v := 0) hx hb dX1_bringForward_24 (by decide) ?_
          refine va_iast (pc := 25) hx hb hK hP hD hS 1 0 rfl rfl (vp_in_nI (by omega) (by decide)) dX1_bringForward_25 (fun H locs hP hD hS => ?_)
          have hP : va_P G vwCl [(xm, .inr (1, [.ref al, .ref ak])), (al, .inl (cI, 16, .inl (upd (bv_bf lv S k) (nI k).toNatClampNeg 0))), (ak, .inl (cI, 16, .inl ks))] H := hP
          have hD : va_D A [(xm, .inr (1, [.ref al, .ref ak])), (al, .inl (cI, 16, .inl (upd (bv_bf lv S k) (nI k).toNatClampNeg 0))), (ak, .inl (cI, 16, .inl ks))] := hD
          rw [show (upd (bv_bf lv S k) (nI k).toNatClampNeg 0) = (bv_bf lv S (k + 1)) from by rw [nI_clamp (by omega)]; exact bv_bf_s h2] at hP hD
          refine lv_iinc (pc := 26) (v := (nI (k + 1))) (lv' := [(2, .int (nI (k + 1))), (0, .ref xm), (1, .int S)]) hx hb dX1_bringForward_26 hl (k := 0) rfl (nI_1 k) (by decide) rfl (fun ls hl => ?_)
          refine lv_goto (pc := 29) (tgt := 2) hx hb dX1_bringForward_29 (by decide) ?_
          exact ih (k + 1) (by omega) (by omega) H _ hP hD hS ls (lv_sub hl [0, 1, 2] rfl)
  rw [← bv_bf_0 (lv := lv) (S := S)] at hP hD
  exact loop_2 (16 - 0 + 1) 0 (Nat.lt_succ_self _) (Nat.zero_le _) s.heap _ hP hD hS ls (lv_sub hl [0, 1, 2] rfl)
