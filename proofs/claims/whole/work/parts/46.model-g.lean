theorem bv_fnd_neg {f : Nat → Bool} {ix : Int32} (h : ix < 0) : ∀ N, N ≤ 1024 → bv_fnd f ix N = none
  | 0, _ => rfl
  | N + 1, hN => by
    rw [bv_fnd, bv_fnd_neg h N (by omega)]
    show (if f N = true ∧ nI (bv_cnt f N) = ix then some N else none) = none
    rw [if_neg]
    intro q
    have h1 := bv_cnt_le f N
    rw [← q.2] at h
    exact nI_pos (by omega) h

set_option maxHeartbeats 4000000 in
set_option maxRecDepth 100000 in
theorem m_X4_count (l : Launch) (G : va_G) (cI : ClassId) (sz : Nat) (y yp yb yr yl pn bn : Nat) (th : Int32) (pf bs br lv : Nat → Int32) (b : Bool) (hp : pn ≤ 12) (hn : bn ≤ 10) : Met l yX4_count wsX4_count ({ frames := 5, cells := 0, slots := 0, locals := 112 }) (bv_P [.ref y, .int (bv_b b)] G cI (fun H => H.size = sz ∧ va_P G vwCl [(y, .inr (4, [.int th, .int (nI pn), .ref yp, .int (nI bn), .ref yb, .ref yr, .ref yl])), (yp, .inl (cI, 12, .inl pf)), (yb, .inl (cI, 10, .inl bs)), (yr, .inl (cI, 10, .inl br)), (yl, .inl (cI, 16, .inl lv))] H ∧ va_D (fun _ => True) [(y, .inr (4, [.int th, .int (nI pn), .ref yp, .int (nI bn), .ref yb, .ref yr, .ref yl])), (yp, .inl (cI, 12, .inl pf)), (yb, .inl (cI, 10, .inl bs)), (yr, .inl (cI, 10, .inl br)), (yl, .inl (cI, 16, .inl lv))])) (va_Qi (fun (r9 : Int32) (_ : Unit) => r9 = (bv_if (if ¬ (1 ≤ pn) then 1 else 0) (nI (bv_cnt (bv_is b bs bn (pf (pn - 1))) (2 ^ bn))) 0)) (fun (_ : Unit) (T9 : State) => va_P G vwCl [(y, .inr (4, [.int (nI (if ¬ (1 ≤ pn) then 1 else 0)), .int (nI pn), .ref yp, .int (nI bn), .ref yb, .ref yr, .ref yl])), (yp, .inl (cI, 12, .inl pf)), (yb, .inl (cI, 10, .inl bs)), (yr, .inl (cI, 10, .inl br)), (yl, .inl (cI, 16, .inl lv))] T9.heap) (va_A [(y, .inr (4, [.int th, .int (nI pn), .ref yp, .int (nI bn), .ref yb, .ref yr, .ref yl])), (yp, .inl (cI, 12, .inl pf)), (yb, .inl (cI, 10, .inl bs)), (yr, .inl (cI, 10, .inl br)), (yl, .inl (cI, 16, .inl lv))] sz)) 0 0 (va_A [(y, .inr (4, [.int th, .int (nI pn), .ref yp, .int (nI bn), .ref yb, .ref yr, .ref yl])), (yp, .inl (cI, 12, .inl pf)), (yb, .inl (cI, 10, .inl bs)), (yr, .inl (cI, 10, .inl br)), (yl, .inl (cI, 16, .inl lv))] sz) := by
  refine Met.ofW (cc := cX4_count) (maxL := 4) (ret := (some .int)) (by decide) rfl ?_
  intro p e s m args below meth c s₁ B hml hv
  obtain ⟨rfl, ⟨hsz, hP, hD0⟩, hE⟩ := hv
  have hx := B.exec
  have hb := B.bytes
  have hr := B.returns
  have hts := atoms_spec (ws := wsX4_count) B.pre
  have hown : s.vm.findClass RX4 = some m.cls := findClass_of_methodNamed B.named
  have hlocks := B.notSynchronized
  have hK := hE.1
  have hw0 := hts (.fieldLink RX4 33 "BeliefReviserModel" "high" "I") (List.mem_of_getElem? (i := 1) rfl)
  have hw1 : ∀ w ∈ u_ws RX4 TX4 7, w ∈ wsX4_count := by decide +kernel
  have hw2 := hts (.fieldLink RX4 22 "BeliefReviserModel" "thrown" "I") (List.mem_of_getElem? (i := 2) rfl)
  have hw3 := hts (.fieldLink RX4 26 "BeliefReviserModel" "size" "I") (List.mem_of_getElem? (i := 3) rfl)
  subst hsz
  have hD := hD0.self (sz := s.heap.size)
  generalize hAe : va_A [(y, .inr (4, [.int th, .int (nI pn), .ref yp, .int (nI bn), .ref yb, .ref yr, .ref yl])), (yp, .inl (cI, 12, .inl pf)), (yb, .inl (cI, 10, .inl bs)), (yr, .inl (cI, 10, .inl br)), (yl, .inl (cI, 16, .inl lv))] s.heap.size = A at hD ⊢
  have hA : ∀ q : Nat, s.heap.size ≤ q → A q := fun q h => by rw [← hAe]; exact Or.inr h
  have hS : va_S A s.heap s.heap [] := va_S.rf
  have hP : va_P G vwCl [(y, .inr (4, [.int th, .int (nI pn), .ref yp, .int (nI bn), .ref yb, .ref yr, .ref yl])), (yp, .inl (cI, 12, .inl pf)), (yb, .inl (cI, 10, .inl bs)), (yr, .inl (cI, 10, .inl br)), (yl, .inl (cI, 16, .inl lv))] s.heap := hP
  have hl := lv_entry ([.ref y, .int (bv_b b)]) (n := 4) (Nat.le_of_ble_eq_true rfl)
  rw [lg_entry_eq]
  generalize (lg_sl ([.ref y, .int (bv_b b)]) ++ List.replicate (4 - (lg_sl ([.ref y, .int (bv_b b)])).length) Slot.unset).toArray = ls at hl ⊢
  have hl : lv_has ls 4 [(0, .ref y), (1, .int (bv_b b))] := hl
  have hp10 := bv_p10 hn
  refine lv_aload_n (pc := 0) hx hb dX4_count_0 rfl (lv_at hl 0 rfl) ?_
  refine lv_aload_n (pc := 1) hx hb dX4_count_1 rfl (lv_at hl 0 rfl) ?_
  refine va_get (pc := 2) (D := G) (ci := 4) (v := .int (nI pn)) (C := RX4) (T := TX4) (N := 7) hx hb hts hw1 hown hK hP 0 rfl rfl 1 (by decide) hw0 (fun _ h9 => h9) rfl dX4_count_2 ?_
  refine lv_if_ne (pc := 5) (tgt := 12) hx hb dX4_count_5 (by decide) (fun c5_1 => ?_) (fun c5_1 => ?_)
  · have hck0 : 1 ≤ pn := by
      by_cases h : pn = 0
      · exact absurd (by rw [h]; rfl) c5_1
      · omega
    refine lv_iconst (pc := 12) (v := 0) hx hb dX4_count_12 (by decide) ?_
    refine va_put (pc := 13) (D := G) (ci := 4) (v := .int 0) (ty := .int) (C := RX4) (T := TX4) (N := 7) hx hb hts hw1 tyX4 tyX4_ok nmX4 hown hK hP hD hS 0 rfl rfl 0 (by decide) hw2 (fun _ h9 => h9) rfl (by decide +kernel) rfl rfl (Nat.le_of_ble_eq_true rfl) dX4_count_13 (fun H locs hP hD hS => ?_)
    have hP : va_P G vwCl [(y, .inr (4, [.int 0, .int (nI pn), .ref yp, .int (nI bn), .ref yb, .ref yr, .ref yl])), (yp, .inl (cI, 12, .inl pf)), (yb, .inl (cI, 10, .inl bs)), (yr, .inl (cI, 10, .inl br)), (yl, .inl (cI, 16, .inl lv))] H := hP
    have hD : va_D A [(y, .inr (4, [.int 0, .int (nI pn), .ref yp, .int (nI bn), .ref yb, .ref yr, .ref yl])), (yp, .inl (cI, 12, .inl pf)), (yb, .inl (cI, 10, .inl bs)), (yr, .inl (cI, 10, .inl br)), (yl, .inl (cI, 16, .inl lv))] := hD
    refine lv_iconst (pc := 16) (v := 0) hx hb dX4_count_16 (by decide) ?_
    refine lv_istore_n (pc := 17) (lv' := [(2, .int 0), (0, .ref y), (1, .int (bv_b b))]) hx hb dX4_count_17 rfl hl (by decide) rfl (fun ls hl => ?_)
    refine lv_iconst (pc := 18) (v := 0) hx hb dX4_count_18 (by decide) ?_
    refine lv_istore_n (pc := 19) (lv' := [(3, .int 0), (2, .int 0), (0, .ref y), (1, .int (bv_b b))]) hx hb dX4_count_19 rfl hl (by decide) rfl (fun ls hl => ?_)
    have loop_20 : ∀ (fu9 : Nat) (t : Nat) (a : Int32), 2 ^ bn - t < fu9 → (t ≤ 2 ^ bn) → (a = nI (bv_cnt (bv_is b bs bn (pf (pn - 1))) t)) → ∀ (H : Heap) (locs : List Loc), va_P G vwCl [(y, .inr (4, [.int 0, .int (nI pn), .ref yp, .int (nI bn), .ref yb, .ref yr, .ref yl])), (yp, .inl (cI, 12, .inl pf)), (yb, .inl (cI, 10, .inl bs)), (yr, .inl (cI, 10, .inl br)), (yl, .inl (cI, 16, .inl lv))] H → va_D A [(y, .inr (4, [.int 0, .int (nI pn), .ref yp, .int (nI bn), .ref yb, .ref yr, .ref yl])), (yp, .inl (cI, 12, .inl pf)), (yb, .inl (cI, 10, .inl bs)), (yr, .inl (cI, 10, .inl br)), (yl, .inl (cI, 16, .inl lv))] → va_S A s.heap H locs → ∀ (ls : Array Slot), lv_has ls 4 [(3, .int (nI t)), (2, .int a), (0, .ref y), (1, .int (bv_b b))] → W p l e (headSpec wsX4_count ({ frames := 5, cells := 0, slots := 0, locals := 112 })).room s m ([.ref y, .int (bv_b b)] : List Value).toArray below meth c H locs 0 0 (MQ below (va_Qi (fun (r9 : Int32) (_ : Unit) => r9 = (bv_if (if ¬ (1 ≤ pn) then 1 else 0) (nI (bv_cnt (bv_is b bs bn (pf (pn - 1))) (2 ^ bn))) 0)) (fun (_ : Unit) (T9 : State) => va_P G vwCl [(y, .inr (4, [.int (nI (if ¬ (1 ≤ pn) then 1 else 0)), .int (nI pn), .ref yp, .int (nI bn), .ref yb, .ref yr, .ref yl])), (yp, .inl (cI, 12, .inl pf)), (yb, .inl (cI, 10, .inl bs)), (yr, .inl (cI, 10, .inl br)), (yl, .inl (cI, 16, .inl lv))] T9.heap) A) ([.ref y, .int (bv_b b)] : List Value).toArray s 0 0 A) (F0 m 20 ls []) := by
      intro fu9
      induction fu9 with
      | zero => intro t a hfu; exact absurd hfu (Nat.not_lt_zero _)
      | succ fu9 ih =>
        intro t a hfu hk hi H locs hP hD hS ls hl
        refine lv_iload_n (pc := 20) hx hb dX4_count_20 rfl (lv_at hl 0 rfl) ?_
        refine lv_iconst (pc := 21) (v := 1) hx hb dX4_count_21 (by decide) ?_
        refine lv_aload_n (pc := 22) hx hb dX4_count_22 rfl (lv_at hl 2 rfl) ?_
        refine va_get (pc := 23) (D := G) (ci := 4) (v := .int (nI bn)) (C := RX4) (T := TX4) (N := 7) hx hb hts hw1 hown hK hP 0 rfl rfl 3 (by decide) hw3 (fun _ h9 => h9) rfl dX4_count_23 ?_
        refine lv_ishl (pc := 26) hx hb dX4_count_26 ?_
        refine lv_icmp_ge (pc := 27) (tgt := 60) hx hb dX4_count_27 (by decide) (fun c27_2 => ?_) (fun c27_2 => ?_)
        · rw [bv_shl hn] at c27_2
          have hkn : 2 ^ bn = t := by
            by_cases h : t < 2 ^ bn
            · exact absurd c27_2 (nI_ge h (by omega))
            · omega
          subst hkn
          refine lv_iload_n (pc := 60) hx hb dX4_count_60 rfl (lv_at hl 1 rfl) ?_
          have hP9 : va_P G vwCl [(y, .inr (4, [.int (nI (if ¬ (1 ≤ pn) then 1 else 0)), .int (nI pn), .ref yp, .int (nI bn), .ref yb, .ref yr, .ref yl])), (yp, .inl (cI, 12, .inl pf)), (yb, .inl (cI, 10, .inl bs)), (yr, .inl (cI, 10, .inl br)), (yl, .inl (cI, 16, .inl lv))] H := by rw [if_neg (not_not_intro hck0)]; exact hP
          exact W.iret (pc := 61) (v := a) hx hb hr (fun T8 hT8 hW8 => ⟨⟨a, (), rfl, (by rw [if_neg (not_not_intro hck0)]; exact hi), bv_hP hT8 hP9⟩, hS.F hT8⟩) hS.2.2 dX4_count_61
        · rw [bv_shl hn] at c27_2
          have hkn : t < 2 ^ bn := by
            by_cases h : t < 2 ^ bn
            · exact h
            · exact absurd (nI_le (by omega) (by omega)) c27_2
          refine lv_aload_n (pc := 30) hx hb dX4_count_30 rfl (lv_at hl 2 rfl) ?_
          refine va_get (pc := 31) (D := G) (ci := 4) (v := .int 0) (C := RX4) (T := TX4) (N := 7) hx hb hts hw1 hown hK hP 0 rfl rfl 0 (by decide) hw2 (fun _ h9 => h9) rfl dX4_count_31 ?_
          refine lv_if_ne (pc := 34) (tgt := 60) hx hb dX4_count_34 (by decide) (fun c34_3 => ?_) (fun c34_3 => ?_)
          · exact absurd rfl c34_3
          · refine lv_iload_n (pc := 37) hx hb dX4_count_37 rfl (lv_at hl 1 rfl) ?_
            refine lv_aload_n (pc := 38) hx hb dX4_count_38 rfl (lv_at hl 2 rfl) ?_
            refine lv_iload_n (pc := 39) hx hb dX4_count_39 rfl (lv_at hl 3 rfl) ?_
            refine lv_iload_n (pc := 40) hx hb dX4_count_40 rfl (lv_at hl 0 rfl) ?_
            have hPc := hP.sub (ws' := [(y, .inr (4, [.int 0, .int (nI pn), .ref yp, .int (nI bn), .ref yb, .ref yr, .ref yl])), (yp, .inl (cI, 12, .inl pf)), (yb, .inl (cI, 10, .inl bs)), (yr, .inl (cI, 10, .inl br)), (yl, .inl (cI, 16, .inl lv))]) [0, 1, 2, 3, 4] rfl
            refine bv_cSi (pc := 41) (E' := (bv_b (bv_is b bs bn (pf (pn - 1)) t))) (va_runV (As := [.int (bv_b b), .int (nI t)]) (rest := [.int a]) ⟨hx, hb, hml, hown, hts⟩ (m_X4_is l G cI y yp yb yr yl pn bn 0 pf bs br lv b t hp hck0 hn hkn) (cwV 2 hts gX4_count_X4_is rfl rfl rfl (by decide +kernel) ⟨Nat.le_of_ble_eq_true rfl, Nat.le_of_ble_eq_true rfl⟩) (bv_pV hE hPc (va_recv hK hP (ci := 4) (q0 := 0) rfl rfl)) rfl rfl hl.1 rfl (lv_room (Nat.le_of_ble_eq_true rfl)) dX4_count_41 ⟨Nat.le_of_ble_eq_true rfl, Nat.le_of_ble_eq_true rfl⟩) rfl ?_
            refine lv_if_eq (pc := 44) (tgt := 51) hx hb dX4_count_44 (by decide) (fun c44_6 => ?_) (fun c44_6 => ?_)
            · have h2 := bv_b0.mp c44_6
              refine lv_iconst (pc := 51) (v := 0) hx hb dX4_count_51 (by decide) ?_
              refine lv_iadd (pc := 52) hx hb dX4_count_52 ?_
              refine lv_istore_n (pc := 53) (lv' := [(2, .int (a + 0)), (3, .int (nI t)), (0, .ref y), (1, .int (bv_b b))]) hx hb dX4_count_53 rfl hl (by decide) rfl (fun ls hl => ?_)
              refine lv_iinc (pc := 54) (v := (nI (t + 1))) (lv' := [(3, .int (nI (t + 1))), (2, .int (a + 0)), (0, .ref y), (1, .int (bv_b b))]) hx hb dX4_count_54 hl (k := 1) rfl (nI_1 t) (by decide) rfl (fun ls hl => ?_)
              refine lv_goto (pc := 57) (tgt := 20) hx hb dX4_count_57 (by decide) ?_
              exact ih (t + 1) (a + 0) (by omega) (by omega) (by simp only [bv_cnt, h2, hi]; exact Int32.add_zero _) H _ hP hD hS ls (lv_sub hl [0, 1, 2, 3] rfl)
            · have h2 := bv_b1.mp c44_6
              refine lv_iconst (pc := 47) (v := 1) hx hb dX4_count_47 (by decide) ?_
              refine lv_goto (pc := 48) (tgt := 52) hx hb dX4_count_48 (by decide) ?_
              refine lv_iadd (pc := 52) hx hb dX4_count_52 ?_
              refine lv_istore_n (pc := 53) (lv' := [(2, .int (a + 1)), (3, .int (nI t)), (0, .ref y), (1, .int (bv_b b))]) hx hb dX4_count_53 rfl hl (by decide) rfl (fun ls hl => ?_)
              refine lv_iinc (pc := 54) (v := (nI (t + 1))) (lv' := [(3, .int (nI (t + 1))), (2, .int (a + 1)), (0, .ref y), (1, .int (bv_b b))]) hx hb dX4_count_54 hl (k := 1) rfl (nI_1 t) (by decide) rfl (fun ls hl => ?_)
              refine lv_goto (pc := 57) (tgt := 20) hx hb dX4_count_57 (by decide) ?_
              exact ih (t + 1) (a + 1) (by omega) (by omega) (by simp only [bv_cnt, if_pos h2, hi]; exact nI_1 _) H _ hP hD hS ls (lv_sub hl [0, 1, 2, 3] rfl)
    exact loop_20 (2 ^ bn - 0 + 1) 0 0 (Nat.lt_succ_self _) (Nat.zero_le _) rfl H _ hP hD hS ls (lv_sub hl [0, 1, 2, 3] rfl)
  · have hbad : ¬ 1 ≤ pn := by
      have h : pn = 0 := (bv_pn0 (by omega)).mp c5_1
      omega
    refine lv_iconst (pc := 8) (v := 1) hx hb dX4_count_8 (by decide) ?_
    refine lv_goto (pc := 9) (tgt := 13) hx hb dX4_count_9 (by decide) ?_
    refine va_put (pc := 13) (D := G) (ci := 4) (v := .int 1) (ty := .int) (C := RX4) (T := TX4) (N := 7) hx hb hts hw1 tyX4 tyX4_ok nmX4 hown hK hP hD hS 0 rfl rfl 0 (by decide) hw2 (fun _ h9 => h9) rfl (by decide +kernel) rfl rfl (Nat.le_of_ble_eq_true rfl) dX4_count_13 (fun H locs hP hD hS => ?_)
    have hP : va_P G vwCl [(y, .inr (4, [.int 1, .int (nI pn), .ref yp, .int (nI bn), .ref yb, .ref yr, .ref yl])), (yp, .inl (cI, 12, .inl pf)), (yb, .inl (cI, 10, .inl bs)), (yr, .inl (cI, 10, .inl br)), (yl, .inl (cI, 16, .inl lv))] H := hP
    have hD : va_D A [(y, .inr (4, [.int 1, .int (nI pn), .ref yp, .int (nI bn), .ref yb, .ref yr, .ref yl])), (yp, .inl (cI, 12, .inl pf)), (yb, .inl (cI, 10, .inl bs)), (yr, .inl (cI, 10, .inl br)), (yl, .inl (cI, 16, .inl lv))] := hD
    refine lv_iconst (pc := 16) (v := 0) hx hb dX4_count_16 (by decide) ?_
    refine lv_istore_n (pc := 17) (lv' := [(2, .int 0), (0, .ref y), (1, .int (bv_b b))]) hx hb dX4_count_17 rfl hl (by decide) rfl (fun ls hl => ?_)
    refine lv_iconst (pc := 18) (v := 0) hx hb dX4_count_18 (by decide) ?_
    refine lv_istore_n (pc := 19) (lv' := [(3, .int 0), (2, .int 0), (0, .ref y), (1, .int (bv_b b))]) hx hb dX4_count_19 rfl hl (by decide) rfl (fun ls hl => ?_)
    refine lv_iload_n (pc := 20) hx hb dX4_count_20 rfl (lv_at hl 0 rfl) ?_
    refine lv_iconst (pc := 21) (v := 1) hx hb dX4_count_21 (by decide) ?_
    refine lv_aload_n (pc := 22) hx hb dX4_count_22 rfl (lv_at hl 2 rfl) ?_
    refine va_get (pc := 23) (D := G) (ci := 4) (v := .int (nI bn)) (C := RX4) (T := TX4) (N := 7) hx hb hts hw1 hown hK hP 0 rfl rfl 3 (by decide) hw3 (fun _ h9 => h9) rfl dX4_count_23 ?_
    refine lv_ishl (pc := 26) hx hb dX4_count_26 ?_
    refine lv_icmp_ge (pc := 27) (tgt := 60) hx hb dX4_count_27 (by decide) (fun c27_7 => ?_) (fun c27_7 => ?_)
    · refine lv_iload_n (pc := 60) hx hb dX4_count_60 rfl (lv_at hl 1 rfl) ?_
      have hP9 : va_P G vwCl [(y, .inr (4, [.int (nI (if ¬ (1 ≤ pn) then 1 else 0)), .int (nI pn), .ref yp, .int (nI bn), .ref yb, .ref yr, .ref yl])), (yp, .inl (cI, 12, .inl pf)), (yb, .inl (cI, 10, .inl bs)), (yr, .inl (cI, 10, .inl br)), (yl, .inl (cI, 16, .inl lv))] H := by rw [if_pos hbad]; exact hP
      exact W.iret (pc := 61) (v := 0) hx hb hr (fun T8 hT8 hW8 => ⟨⟨0, (), rfl, (by rw [if_pos hbad]; rfl), bv_hP hT8 hP9⟩, hS.F hT8⟩) hS.2.2 dX4_count_61
    · refine lv_aload_n (pc := 30) hx hb dX4_count_30 rfl (lv_at hl 2 rfl) ?_
      refine va_get (pc := 31) (D := G) (ci := 4) (v := .int 1) (C := RX4) (T := TX4) (N := 7) hx hb hts hw1 hown hK hP 0 rfl rfl 0 (by decide) hw2 (fun _ h9 => h9) rfl dX4_count_31 ?_
      refine lv_if_ne (pc := 34) (tgt := 60) hx hb dX4_count_34 (by decide) (fun c34_8 => ?_) (fun c34_8 => ?_)
      · refine lv_iload_n (pc := 60) hx hb dX4_count_60 rfl (lv_at hl 1 rfl) ?_
        have hP9 : va_P G vwCl [(y, .inr (4, [.int (nI (if ¬ (1 ≤ pn) then 1 else 0)), .int (nI pn), .ref yp, .int (nI bn), .ref yb, .ref yr, .ref yl])), (yp, .inl (cI, 12, .inl pf)), (yb, .inl (cI, 10, .inl bs)), (yr, .inl (cI, 10, .inl br)), (yl, .inl (cI, 16, .inl lv))] H := by rw [if_pos hbad]; exact hP
        exact W.iret (pc := 61) (v := 0) hx hb hr (fun T8 hT8 hW8 => ⟨⟨0, (), rfl, (by rw [if_pos hbad]; rfl), bv_hP hT8 hP9⟩, hS.F hT8⟩) hS.2.2 dX4_count_61
      · exact absurd c34_8 (by decide)
set_option maxHeartbeats 4000000 in
set_option maxRecDepth 100000 in
theorem m_X4_at (l : Launch) (G : va_G) (cI : ClassId) (sz : Nat) (y yp yb yr yl pn bn : Nat) (th : Int32) (pf bs br lv : Nat → Int32) (b : Bool) (i : Int32) (hp : pn ≤ 12) (hn : bn ≤ 10) : Met l yX4_at wsX4_at ({ frames := 5, cells := 0, slots := 0, locals := 112 }) (bv_P [.ref y, .int (bv_b b), .int i] G cI (fun H => H.size = sz ∧ va_P G vwCl [(y, .inr (4, [.int th, .int (nI pn), .ref yp, .int (nI bn), .ref yb, .ref yr, .ref yl])), (yp, .inl (cI, 12, .inl pf)), (yb, .inl (cI, 10, .inl bs)), (yr, .inl (cI, 10, .inl br)), (yl, .inl (cI, 16, .inl lv))] H ∧ va_D (fun _ => True) [(y, .inr (4, [.int th, .int (nI pn), .ref yp, .int (nI bn), .ref yb, .ref yr, .ref yl])), (yp, .inl (cI, 12, .inl pf)), (yb, .inl (cI, 10, .inl bs)), (yr, .inl (cI, 10, .inl br)), (yl, .inl (cI, 16, .inl lv))])) (va_Qi (fun (r9 : Int32) (_ : Unit) => r9 = (bv_if (if ¬ (1 ≤ pn) then 1 else (if ¬ (bv_fnd (bv_is b bs bn (pf (pn - 1))) i (2 ^ bn) ≠ none) then 2 else 0)) (bv_oI (bv_fnd (bv_is b bs bn (pf (pn - 1))) i (2 ^ bn))) 0)) (fun (_ : Unit) (T9 : State) => va_P G vwCl [(y, .inr (4, [.int (nI (if ¬ (1 ≤ pn) then 1 else (if ¬ (bv_fnd (bv_is b bs bn (pf (pn - 1))) i (2 ^ bn) ≠ none) then 2 else 0))), .int (nI pn), .ref yp, .int (nI bn), .ref yb, .ref yr, .ref yl])), (yp, .inl (cI, 12, .inl pf)), (yb, .inl (cI, 10, .inl bs)), (yr, .inl (cI, 10, .inl br)), (yl, .inl (cI, 16, .inl lv))] T9.heap) (va_A [(y, .inr (4, [.int th, .int (nI pn), .ref yp, .int (nI bn), .ref yb, .ref yr, .ref yl])), (yp, .inl (cI, 12, .inl pf)), (yb, .inl (cI, 10, .inl bs)), (yr, .inl (cI, 10, .inl br)), (yl, .inl (cI, 16, .inl lv))] sz)) 0 0 (va_A [(y, .inr (4, [.int th, .int (nI pn), .ref yp, .int (nI bn), .ref yb, .ref yr, .ref yl])), (yp, .inl (cI, 12, .inl pf)), (yb, .inl (cI, 10, .inl bs)), (yr, .inl (cI, 10, .inl br)), (yl, .inl (cI, 16, .inl lv))] sz) := by
  refine Met.ofW (cc := cX4_at) (maxL := 5) (ret := (some .int)) (by decide) rfl ?_
  intro p e s m args below meth c s₁ B hml hv
  obtain ⟨rfl, ⟨hsz, hP, hD0⟩, hE⟩ := hv
  have hx := B.exec
  have hb := B.bytes
  have hr := B.returns
  have hts := atoms_spec (ws := wsX4_at) B.pre
  have hown : s.vm.findClass RX4 = some m.cls := findClass_of_methodNamed B.named
  have hlocks := B.notSynchronized
  have hK := hE.1
  have hw0 := hts (.fieldLink RX4 22 "BeliefReviserModel" "thrown" "I") (List.mem_of_getElem? (i := 1) rfl)
  have hw1 : ∀ w ∈ u_ws RX4 TX4 7, w ∈ wsX4_at := by decide +kernel
  have hw2 := hts (.fieldLink RX4 33 "BeliefReviserModel" "high" "I") (List.mem_of_getElem? (i := 2) rfl)
  have hw3 := hts (.fieldLink RX4 26 "BeliefReviserModel" "size" "I") (List.mem_of_getElem? (i := 3) rfl)
  subst hsz
  have hD := hD0.self (sz := s.heap.size)
  generalize hAe : va_A [(y, .inr (4, [.int th, .int (nI pn), .ref yp, .int (nI bn), .ref yb, .ref yr, .ref yl])), (yp, .inl (cI, 12, .inl pf)), (yb, .inl (cI, 10, .inl bs)), (yr, .inl (cI, 10, .inl br)), (yl, .inl (cI, 16, .inl lv))] s.heap.size = A at hD ⊢
  have hA : ∀ q : Nat, s.heap.size ≤ q → A q := fun q h => by rw [← hAe]; exact Or.inr h
  have hS : va_S A s.heap s.heap [] := va_S.rf
  have hP : va_P G vwCl [(y, .inr (4, [.int th, .int (nI pn), .ref yp, .int (nI bn), .ref yb, .ref yr, .ref yl])), (yp, .inl (cI, 12, .inl pf)), (yb, .inl (cI, 10, .inl bs)), (yr, .inl (cI, 10, .inl br)), (yl, .inl (cI, 16, .inl lv))] s.heap := hP
  have hl := lv_entry ([.ref y, .int (bv_b b), .int i]) (n := 5) (Nat.le_of_ble_eq_true rfl)
  rw [lg_entry_eq]
  generalize (lg_sl ([.ref y, .int (bv_b b), .int i]) ++ List.replicate (5 - (lg_sl ([.ref y, .int (bv_b b), .int i])).length) Slot.unset).toArray = ls at hl ⊢
  have hl : lv_has ls 5 [(0, .ref y), (1, .int (bv_b b)), (2, .int i)] := hl
  have hp10 := bv_p10 hn
  refine lv_aload_n (pc := 0) hx hb dX4_at_0 rfl (lv_at hl 0 rfl) ?_
  refine lv_iconst (pc := 1) (v := 0) hx hb dX4_at_1 (by decide) ?_
  refine va_put (pc := 2) (D := G) (ci := 4) (v := .int 0) (ty := .int) (C := RX4) (T := TX4) (N := 7) hx hb hts hw1 tyX4 tyX4_ok nmX4 hown hK hP hD hS 0 rfl rfl 0 (by decide) hw0 (fun _ h9 => h9) rfl (by decide +kernel) rfl rfl (Nat.le_of_ble_eq_true rfl) dX4_at_2 (fun H locs hP hD hS => ?_)
  have hP : va_P G vwCl [(y, .inr (4, [.int 0, .int (nI pn), .ref yp, .int (nI bn), .ref yb, .ref yr, .ref yl])), (yp, .inl (cI, 12, .inl pf)), (yb, .inl (cI, 10, .inl bs)), (yr, .inl (cI, 10, .inl br)), (yl, .inl (cI, 16, .inl lv))] H := hP
  have hD : va_D A [(y, .inr (4, [.int 0, .int (nI pn), .ref yp, .int (nI bn), .ref yb, .ref yr, .ref yl])), (yp, .inl (cI, 12, .inl pf)), (yb, .inl (cI, 10, .inl bs)), (yr, .inl (cI, 10, .inl br)), (yl, .inl (cI, 16, .inl lv))] := hD
  refine lv_aload_n (pc := 5) hx hb dX4_at_5 rfl (lv_at hl 0 rfl) ?_
  refine va_get (pc := 6) (D := G) (ci := 4) (v := .int (nI pn)) (C := RX4) (T := TX4) (N := 7) hx hb hts hw1 hown hK hP 0 rfl rfl 1 (by decide) hw2 (fun _ h9 => h9) rfl dX4_at_6 ?_
  refine lv_if_ne (pc := 9) (tgt := 18) hx hb dX4_at_9 (by decide) (fun c9_1 => ?_) (fun c9_1 => ?_)
  · have hck0 : 1 ≤ pn := by
      by_cases h : pn = 0
      · exact absurd (by rw [h]; rfl) c9_1
      · omega
    by_cases hneg : i < 0
    · 
      refine lv_iload_n (pc := 18) hx hb dX4_at_18 rfl (lv_at hl 2 rfl) ?_
      refine lv_istore_n (pc := 19) (lv' := [(3, .int i), (0, .ref y), (1, .int (bv_b b)), (2, .int i)]) hx hb dX4_at_19 rfl hl (by decide) rfl (fun ls hl => ?_)
      refine lv_iconst (pc := 20) (v := 0) hx hb dX4_at_20 (by decide) ?_
      refine lv_istore (pc := 21) (lv' := [(4, .int 0), (3, .int i), (0, .ref y), (1, .int (bv_b b)), (2, .int i)]) hx hb dX4_at_21 hl (by decide) rfl (fun ls hl => ?_)
      refine lv_iload (pc := 23) hx hb dX4_at_23 (lv_at hl 0 rfl) ?_
      refine lv_iconst (pc := 25) (v := 1) hx hb dX4_at_25 (by decide) ?_
      refine lv_aload_n (pc := 26) hx hb dX4_at_26 rfl (lv_at hl 2 rfl) ?_
      refine va_get (pc := 27) (D := G) (ci := 4) (v := .int (nI bn)) (C := RX4) (T := TX4) (N := 7) hx hb hts hw1 hown hK hP 0 rfl rfl 3 (by decide) hw3 (fun _ h9 => h9) rfl dX4_at_27 ?_
      refine lv_ishl (pc := 30) hx hb dX4_at_30 ?_
      refine lv_icmp_ge (pc := 31) (tgt := 67) hx hb dX4_at_31 (by decide) (fun c31_2 => ?_) (fun c31_2 => ?_)
      · refine lv_aload_n (pc := 67) hx hb dX4_at_67 rfl (lv_at hl 2 rfl) ?_
        refine lv_iconst (pc := 68) (v := 2) hx hb dX4_at_68 (by decide) ?_
        have hPc := hP.sub (ws' := [(y, .inr (4, [.int 0, .int (nI pn), .ref yp, .int (nI bn), .ref yb, .ref yr, .ref yl]))]) [0] rfl
        have hDc := hD.sub (ws' := [(y, .inr (4, [.int 0, .int (nI pn), .ref yp, .int (nI bn), .ref yb, .ref yr, .ref yl]))]) [0] (by decide) rfl
        have hFc := va_free (wc := [(y, .inr (4, [.int 0, .int (nI pn), .ref yp, .int (nI bn), .ref yb, .ref yr, .ref yl]))]) hD hS hA [0] rfl
        refine bv_cMi (pc := 69) (E' := 0) (va_runV (As := [.int 2]) (rest := []) ⟨hx, hb, hml, hown, hts⟩ (m_X4_no l G cI H.size y yp yb yr yl 0 (nI pn) (nI bn) 2 ) (cwV 1 hts gX4_at_X4_no rfl rfl rfl (by decide +kernel) ⟨Nat.le_of_ble_eq_true rfl, Nat.le_of_ble_eq_true rfl⟩) (bv_pV hE ⟨rfl, hPc, hDc.weaken (fun _ _ _ _ => trivial)⟩ (va_recv hK hP (ci := 4) (q0 := 0) rfl rfl)) rfl rfl hl.1 rfl (lv_room (Nat.le_of_ble_eq_true rfl)) dX4_at_69 ⟨Nat.le_of_ble_eq_true rfl, Nat.le_of_ble_eq_true rfl⟩) hS (fun q _ h => hFc q h) hFc rfl (fun t8 H1 locs ht8 hvm8 hB8 hz1 hk1 hS => ?_)
        have hP1 : va_P G vwCl [(y, .inr (4, [.int 2, .int (nI pn), .ref yp, .int (nI bn), .ref yb, .ref yr, .ref yl]))] H1 := by rw [← ht8]; exact hB8
        obtain ⟨hP, hD⟩ := va_join (wr := [(yp, .inl (cI, 12, .inl pf)), (yb, .inl (cI, 10, .inl bs)), (yr, .inl (cI, 10, .inl br)), (yl, .inl (cI, 16, .inl lv))]) (w1 := [(y, .inr (4, [.int 2, .int (nI pn), .ref yp, .int (nI bn), .ref yb, .ref yr, .ref yl]))]) hP hD [0] [1, 2, 3, 4] rfl rfl (by decide) (by decide) hk1 hFc hP1 (bv_Dm (w0 := [(y, .inr (4, [.int 0, .int (nI pn), .ref yp, .int (nI bn), .ref yb, .ref yr, .ref yl]))]) [y] rfl rfl hDc.self)
        have hP : va_P G vwCl [(y, .inr (4, [.int 2, .int (nI pn), .ref yp, .int (nI bn), .ref yb, .ref yr, .ref yl])), (yp, .inl (cI, 12, .inl pf)), (yb, .inl (cI, 10, .inl bs)), (yr, .inl (cI, 10, .inl br)), (yl, .inl (cI, 16, .inl lv))] H1 := hP.sub (ws' := [(y, .inr (4, [.int 2, .int (nI pn), .ref yp, .int (nI bn), .ref yb, .ref yr, .ref yl])), (yp, .inl (cI, 12, .inl pf)), (yb, .inl (cI, 10, .inl bs)), (yr, .inl (cI, 10, .inl br)), (yl, .inl (cI, 16, .inl lv))]) [4, 0, 1, 2, 3] rfl
        have hD : va_D A [(y, .inr (4, [.int 2, .int (nI pn), .ref yp, .int (nI bn), .ref yb, .ref yr, .ref yl])), (yp, .inl (cI, 12, .inl pf)), (yb, .inl (cI, 10, .inl bs)), (yr, .inl (cI, 10, .inl br)), (yl, .inl (cI, 16, .inl lv))] := hD.sub (ws' := [(y, .inr (4, [.int 2, .int (nI pn), .ref yp, .int (nI bn), .ref yb, .ref yr, .ref yl])), (yp, .inl (cI, 12, .inl pf)), (yb, .inl (cI, 10, .inl bs)), (yr, .inl (cI, 10, .inl br)), (yl, .inl (cI, 16, .inl lv))]) [4, 0, 1, 2, 3] (by decide) rfl
        generalize H1 = H at hP hS ⊢
        have hP9 : va_P G vwCl [(y, .inr (4, [.int (nI (if ¬ (1 ≤ pn) then 1 else (if ¬ (bv_fnd (bv_is b bs bn (pf (pn - 1))) i (2 ^ bn) ≠ none) then 2 else 0))), .int (nI pn), .ref yp, .int (nI bn), .ref yb, .ref yr, .ref yl])), (yp, .inl (cI, 12, .inl pf)), (yb, .inl (cI, 10, .inl bs)), (yr, .inl (cI, 10, .inl br)), (yl, .inl (cI, 16, .inl lv))] H := by rw [if_neg (not_not_intro hck0), if_pos (by rw [bv_fnd_neg hneg _ (by omega)]; simp)]; exact hP
        exact W.iret (pc := 72) (v := 0) hx hb hr (fun T8 hT8 hW8 => ⟨⟨0, (), rfl, (by rw [if_neg (not_not_intro hck0), if_pos (by rw [bv_fnd_neg hneg _ (by omega)]; simp)]; rfl), bv_hP hT8 hP9⟩, hS.F hT8⟩) hS.2.2 dX4_at_72
      · refine lv_iload_n (pc := 34) hx hb dX4_at_34 rfl (lv_at hl 1 rfl) ?_
        refine lv_if_lt (pc := 35) (tgt := 67) hx hb dX4_at_35 (by decide) (fun c35_5 => ?_) (fun c35_5 => ?_)
        · refine lv_aload_n (pc := 67) hx hb dX4_at_67 rfl (lv_at hl 2 rfl) ?_
          refine lv_iconst (pc := 68) (v := 2) hx hb dX4_at_68 (by decide) ?_
          have hPc := hP.sub (ws' := [(y, .inr (4, [.int 0, .int (nI pn), .ref yp, .int (nI bn), .ref yb, .ref yr, .ref yl]))]) [0] rfl
          have hDc := hD.sub (ws' := [(y, .inr (4, [.int 0, .int (nI pn), .ref yp, .int (nI bn), .ref yb, .ref yr, .ref yl]))]) [0] (by decide) rfl
          have hFc := va_free (wc := [(y, .inr (4, [.int 0, .int (nI pn), .ref yp, .int (nI bn), .ref yb, .ref yr, .ref yl]))]) hD hS hA [0] rfl
          refine bv_cMi (pc := 69) (E' := 0) (va_runV (As := [.int 2]) (rest := []) ⟨hx, hb, hml, hown, hts⟩ (m_X4_no l G cI H.size y yp yb yr yl 0 (nI pn) (nI bn) 2 ) (cwV 1 hts gX4_at_X4_no rfl rfl rfl (by decide +kernel) ⟨Nat.le_of_ble_eq_true rfl, Nat.le_of_ble_eq_true rfl⟩) (bv_pV hE ⟨rfl, hPc, hDc.weaken (fun _ _ _ _ => trivial)⟩ (va_recv hK hP (ci := 4) (q0 := 0) rfl rfl)) rfl rfl hl.1 rfl (lv_room (Nat.le_of_ble_eq_true rfl)) dX4_at_69 ⟨Nat.le_of_ble_eq_true rfl, Nat.le_of_ble_eq_true rfl⟩) hS (fun q _ h => hFc q h) hFc rfl (fun t8 H1 locs ht8 hvm8 hB8 hz1 hk1 hS => ?_)
          have hP1 : va_P G vwCl [(y, .inr (4, [.int 2, .int (nI pn), .ref yp, .int (nI bn), .ref yb, .ref yr, .ref yl]))] H1 := by rw [← ht8]; exact hB8
          obtain ⟨hP, hD⟩ := va_join (wr := [(yp, .inl (cI, 12, .inl pf)), (yb, .inl (cI, 10, .inl bs)), (yr, .inl (cI, 10, .inl br)), (yl, .inl (cI, 16, .inl lv))]) (w1 := [(y, .inr (4, [.int 2, .int (nI pn), .ref yp, .int (nI bn), .ref yb, .ref yr, .ref yl]))]) hP hD [0] [1, 2, 3, 4] rfl rfl (by decide) (by decide) hk1 hFc hP1 (bv_Dm (w0 := [(y, .inr (4, [.int 0, .int (nI pn), .ref yp, .int (nI bn), .ref yb, .ref yr, .ref yl]))]) [y] rfl rfl hDc.self)
          have hP : va_P G vwCl [(y, .inr (4, [.int 2, .int (nI pn), .ref yp, .int (nI bn), .ref yb, .ref yr, .ref yl])), (yp, .inl (cI, 12, .inl pf)), (yb, .inl (cI, 10, .inl bs)), (yr, .inl (cI, 10, .inl br)), (yl, .inl (cI, 16, .inl lv))] H1 := hP.sub (ws' := [(y, .inr (4, [.int 2, .int (nI pn), .ref yp, .int (nI bn), .ref yb, .ref yr, .ref yl])), (yp, .inl (cI, 12, .inl pf)), (yb, .inl (cI, 10, .inl bs)), (yr, .inl (cI, 10, .inl br)), (yl, .inl (cI, 16, .inl lv))]) [4, 0, 1, 2, 3] rfl
          have hD : va_D A [(y, .inr (4, [.int 2, .int (nI pn), .ref yp, .int (nI bn), .ref yb, .ref yr, .ref yl])), (yp, .inl (cI, 12, .inl pf)), (yb, .inl (cI, 10, .inl bs)), (yr, .inl (cI, 10, .inl br)), (yl, .inl (cI, 16, .inl lv))] := hD.sub (ws' := [(y, .inr (4, [.int 2, .int (nI pn), .ref yp, .int (nI bn), .ref yb, .ref yr, .ref yl])), (yp, .inl (cI, 12, .inl pf)), (yb, .inl (cI, 10, .inl bs)), (yr, .inl (cI, 10, .inl br)), (yl, .inl (cI, 16, .inl lv))]) [4, 0, 1, 2, 3] (by decide) rfl
          generalize H1 = H at hP hS ⊢
          have hP9 : va_P G vwCl [(y, .inr (4, [.int (nI (if ¬ (1 ≤ pn) then 1 else (if ¬ (bv_fnd (bv_is b bs bn (pf (pn - 1))) i (2 ^ bn) ≠ none) then 2 else 0))), .int (nI pn), .ref yp, .int (nI bn), .ref yb, .ref yr, .ref yl])), (yp, .inl (cI, 12, .inl pf)), (yb, .inl (cI, 10, .inl bs)), (yr, .inl (cI, 10, .inl br)), (yl, .inl (cI, 16, .inl lv))] H := by rw [if_neg (not_not_intro hck0), if_pos (by rw [bv_fnd_neg hneg _ (by omega)]; simp)]; exact hP
          exact W.iret (pc := 72) (v := 0) hx hb hr (fun T8 hT8 hW8 => ⟨⟨0, (), rfl, (by rw [if_neg (not_not_intro hck0), if_pos (by rw [bv_fnd_neg hneg _ (by omega)]; simp)]; rfl), bv_hP hT8 hP9⟩, hS.F hT8⟩) hS.2.2 dX4_at_72
        · exact absurd hneg c35_5
    · obtain ⟨x8, hx8, rfl⟩ := nI_of hneg
      refine lv_iload_n (pc := 18) hx hb dX4_at_18 rfl (lv_at hl 2 rfl) ?_
      refine lv_istore_n (pc := 19) (lv' := [(3, .int (nI x8)), (0, .ref y), (1, .int (bv_b b)), (2, .int (nI x8))]) hx hb dX4_at_19 rfl hl (by decide) rfl (fun ls hl => ?_)
      refine lv_iconst (pc := 20) (v := 0) hx hb dX4_at_20 (by decide) ?_
      refine lv_istore (pc := 21) (lv' := [(4, .int 0), (3, .int (nI x8)), (0, .ref y), (1, .int (bv_b b)), (2, .int (nI x8))]) hx hb dX4_at_21 hl (by decide) rfl (fun ls hl => ?_)
      have loop_23 : ∀ (fu9 : Nat) (t : Nat) (a : Nat), 2 ^ bn - t < fu9 → (t ≤ 2 ^ bn) → (a + bv_cnt (bv_is b bs bn (pf (pn - 1))) t = x8) → (bv_fnd (bv_is b bs bn (pf (pn - 1))) (nI x8) t = none) → ∀ (H : Heap) (locs : List Loc), va_P G vwCl [(y, .inr (4, [.int 0, .int (nI pn), .ref yp, .int (nI bn), .ref yb, .ref yr, .ref yl])), (yp, .inl (cI, 12, .inl pf)), (yb, .inl (cI, 10, .inl bs)), (yr, .inl (cI, 10, .inl br)), (yl, .inl (cI, 16, .inl lv))] H → va_D A [(y, .inr (4, [.int 0, .int (nI pn), .ref yp, .int (nI bn), .ref yb, .ref yr, .ref yl])), (yp, .inl (cI, 12, .inl pf)), (yb, .inl (cI, 10, .inl bs)), (yr, .inl (cI, 10, .inl br)), (yl, .inl (cI, 16, .inl lv))] → va_S A s.heap H locs → ∀ (ls : Array Slot), lv_has ls 5 [(4, .int (nI t)), (3, .int (nI a)), (0, .ref y), (1, .int (bv_b b)), (2, .int (nI x8))] → W p l e (headSpec wsX4_at ({ frames := 5, cells := 0, slots := 0, locals := 112 })).room s m ([.ref y, .int (bv_b b), .int (nI x8)] : List Value).toArray below meth c H locs 0 0 (MQ below (va_Qi (fun (r9 : Int32) (_ : Unit) => r9 = (bv_if (if ¬ (1 ≤ pn) then 1 else (if ¬ (bv_fnd (bv_is b bs bn (pf (pn - 1))) (nI x8) (2 ^ bn) ≠ none) then 2 else 0)) (bv_oI (bv_fnd (bv_is b bs bn (pf (pn - 1))) (nI x8) (2 ^ bn))) 0)) (fun (_ : Unit) (T9 : State) => va_P G vwCl [(y, .inr (4, [.int (nI (if ¬ (1 ≤ pn) then 1 else (if ¬ (bv_fnd (bv_is b bs bn (pf (pn - 1))) (nI x8) (2 ^ bn) ≠ none) then 2 else 0))), .int (nI pn), .ref yp, .int (nI bn), .ref yb, .ref yr, .ref yl])), (yp, .inl (cI, 12, .inl pf)), (yb, .inl (cI, 10, .inl bs)), (yr, .inl (cI, 10, .inl br)), (yl, .inl (cI, 16, .inl lv))] T9.heap) A) ([.ref y, .int (bv_b b), .int (nI x8)] : List Value).toArray s 0 0 A) (F0 m 23 ls []) := by
        intro fu9
        induction fu9 with
        | zero => intro t a hfu; exact absurd hfu (Nat.not_lt_zero _)
        | succ fu9 ih =>
          intro t a hfu hk hi hf H locs hP hD hS ls hl
          refine lv_iload (pc := 23) hx hb dX4_at_23 (lv_at hl 0 rfl) ?_
          refine lv_iconst (pc := 25) (v := 1) hx hb dX4_at_25 (by decide) ?_
          refine lv_aload_n (pc := 26) hx hb dX4_at_26 rfl (lv_at hl 2 rfl) ?_
          refine va_get (pc := 27) (D := G) (ci := 4) (v := .int (nI bn)) (C := RX4) (T := TX4) (N := 7) hx hb hts hw1 hown hK hP 0 rfl rfl 3 (by decide) hw3 (fun _ h9 => h9) rfl dX4_at_27 ?_
          refine lv_ishl (pc := 30) hx hb dX4_at_30 ?_
          refine lv_icmp_ge (pc := 31) (tgt := 67) hx hb dX4_at_31 (by decide) (fun c31_8 => ?_) (fun c31_8 => ?_)
          · rw [bv_shl hn] at c31_8
            have hkn : 2 ^ bn = t := by
              by_cases h : t < 2 ^ bn
              · exact absurd c31_8 (nI_ge h (by omega))
              · omega
            subst hkn
            refine lv_aload_n (pc := 67) hx hb dX4_at_67 rfl (lv_at hl 2 rfl) ?_
            refine lv_iconst (pc := 68) (v := 2) hx hb dX4_at_68 (by decide) ?_
            have hPc := hP.sub (ws' := [(y, .inr (4, [.int 0, .int (nI pn), .ref yp, .int (nI bn), .ref yb, .ref yr, .ref yl]))]) [0] rfl
            have hDc := hD.sub (ws' := [(y, .inr (4, [.int 0, .int (nI pn), .ref yp, .int (nI bn), .ref yb, .ref yr, .ref yl]))]) [0] (by decide) rfl
            have hFc := va_free (wc := [(y, .inr (4, [.int 0, .int (nI pn), .ref yp, .int (nI bn), .ref yb, .ref yr, .ref yl]))]) hD hS hA [0] rfl
            refine bv_cMi (pc := 69) (E' := 0) (va_runV (As := [.int 2]) (rest := []) ⟨hx, hb, hml, hown, hts⟩ (m_X4_no l G cI H.size y yp yb yr yl 0 (nI pn) (nI bn) 2 ) (cwV 1 hts gX4_at_X4_no rfl rfl rfl (by decide +kernel) ⟨Nat.le_of_ble_eq_true rfl, Nat.le_of_ble_eq_true rfl⟩) (bv_pV hE ⟨rfl, hPc, hDc.weaken (fun _ _ _ _ => trivial)⟩ (va_recv hK hP (ci := 4) (q0 := 0) rfl rfl)) rfl rfl hl.1 rfl (lv_room (Nat.le_of_ble_eq_true rfl)) dX4_at_69 ⟨Nat.le_of_ble_eq_true rfl, Nat.le_of_ble_eq_true rfl⟩) hS (fun q _ h => hFc q h) hFc rfl (fun t8 H1 locs ht8 hvm8 hB8 hz1 hk1 hS => ?_)
            have hP1 : va_P G vwCl [(y, .inr (4, [.int 2, .int (nI pn), .ref yp, .int (nI bn), .ref yb, .ref yr, .ref yl]))] H1 := by rw [← ht8]; exact hB8
            obtain ⟨hP, hD⟩ := va_join (wr := [(yp, .inl (cI, 12, .inl pf)), (yb, .inl (cI, 10, .inl bs)), (yr, .inl (cI, 10, .inl br)), (yl, .inl (cI, 16, .inl lv))]) (w1 := [(y, .inr (4, [.int 2, .int (nI pn), .ref yp, .int (nI bn), .ref yb, .ref yr, .ref yl]))]) hP hD [0] [1, 2, 3, 4] rfl rfl (by decide) (by decide) hk1 hFc hP1 (bv_Dm (w0 := [(y, .inr (4, [.int 0, .int (nI pn), .ref yp, .int (nI bn), .ref yb, .ref yr, .ref yl]))]) [y] rfl rfl hDc.self)
            have hP : va_P G vwCl [(y, .inr (4, [.int 2, .int (nI pn), .ref yp, .int (nI bn), .ref yb, .ref yr, .ref yl])), (yp, .inl (cI, 12, .inl pf)), (yb, .inl (cI, 10, .inl bs)), (yr, .inl (cI, 10, .inl br)), (yl, .inl (cI, 16, .inl lv))] H1 := hP.sub (ws' := [(y, .inr (4, [.int 2, .int (nI pn), .ref yp, .int (nI bn), .ref yb, .ref yr, .ref yl])), (yp, .inl (cI, 12, .inl pf)), (yb, .inl (cI, 10, .inl bs)), (yr, .inl (cI, 10, .inl br)), (yl, .inl (cI, 16, .inl lv))]) [4, 0, 1, 2, 3] rfl
            have hD : va_D A [(y, .inr (4, [.int 2, .int (nI pn), .ref yp, .int (nI bn), .ref yb, .ref yr, .ref yl])), (yp, .inl (cI, 12, .inl pf)), (yb, .inl (cI, 10, .inl bs)), (yr, .inl (cI, 10, .inl br)), (yl, .inl (cI, 16, .inl lv))] := hD.sub (ws' := [(y, .inr (4, [.int 2, .int (nI pn), .ref yp, .int (nI bn), .ref yb, .ref yr, .ref yl])), (yp, .inl (cI, 12, .inl pf)), (yb, .inl (cI, 10, .inl bs)), (yr, .inl (cI, 10, .inl br)), (yl, .inl (cI, 16, .inl lv))]) [4, 0, 1, 2, 3] (by decide) rfl
            generalize H1 = H at hP hS ⊢
            have hP9 : va_P G vwCl [(y, .inr (4, [.int (nI (if ¬ (1 ≤ pn) then 1 else (if ¬ (bv_fnd (bv_is b bs bn (pf (pn - 1))) (nI x8) (2 ^ bn) ≠ none) then 2 else 0))), .int (nI pn), .ref yp, .int (nI bn), .ref yb, .ref yr, .ref yl])), (yp, .inl (cI, 12, .inl pf)), (yb, .inl (cI, 10, .inl bs)), (yr, .inl (cI, 10, .inl br)), (yl, .inl (cI, 16, .inl lv))] H := by rw [if_neg (not_not_intro hck0), if_pos (by rw [hf]; simp)]; exact hP
            exact W.iret (pc := 72) (v := 0) hx hb hr (fun T8 hT8 hW8 => ⟨⟨0, (), rfl, (by rw [if_neg (not_not_intro hck0), if_pos (by rw [hf]; simp)]; rfl), bv_hP hT8 hP9⟩, hS.F hT8⟩) hS.2.2 dX4_at_72
          · rw [bv_shl hn] at c31_8
            have hkn : t < 2 ^ bn := by
              by_cases h : t < 2 ^ bn
              · exact h
              · exact absurd (nI_le (by omega) (by omega)) c31_8
            refine lv_iload_n (pc := 34) hx hb dX4_at_34 rfl (lv_at hl 1 rfl) ?_
            refine lv_if_lt (pc := 35) (tgt := 67) hx hb dX4_at_35 (by decide) (fun c35_11 => ?_) (fun c35_11 => ?_)
            · exact absurd c35_11 (nI_pos (by omega))
            · refine lv_aload_n (pc := 38) hx hb dX4_at_38 rfl (lv_at hl 2 rfl) ?_
              refine lv_iload_n (pc := 39) hx hb dX4_at_39 rfl (lv_at hl 3 rfl) ?_
              refine lv_iload (pc := 40) hx hb dX4_at_40 (lv_at hl 0 rfl) ?_
              have hPc := hP.sub (ws' := [(y, .inr (4, [.int 0, .int (nI pn), .ref yp, .int (nI bn), .ref yb, .ref yr, .ref yl])), (yp, .inl (cI, 12, .inl pf)), (yb, .inl (cI, 10, .inl bs)), (yr, .inl (cI, 10, .inl br)), (yl, .inl (cI, 16, .inl lv))]) [0, 1, 2, 3, 4] rfl
              refine bv_cSi (pc := 42) (E' := (bv_b (bv_is b bs bn (pf (pn - 1)) t))) (va_runV (As := [.int (bv_b b), .int (nI t)]) (rest := []) ⟨hx, hb, hml, hown, hts⟩ (m_X4_is l G cI y yp yb yr yl pn bn 0 pf bs br lv b t hp hck0 hn hkn) (cwV 2 hts gX4_at_X4_is rfl rfl rfl (by decide +kernel) ⟨Nat.le_of_ble_eq_true rfl, Nat.le_of_ble_eq_true rfl⟩) (bv_pV hE hPc (va_recv hK hP (ci := 4) (q0 := 0) rfl rfl)) rfl rfl hl.1 rfl (lv_room (Nat.le_of_ble_eq_true rfl)) dX4_at_42 ⟨Nat.le_of_ble_eq_true rfl, Nat.le_of_ble_eq_true rfl⟩) rfl ?_
              refine lv_if_ne (pc := 45) (tgt := 51) hx hb dX4_at_45 (by decide) (fun c45_14 => ?_) (fun c45_14 => ?_)
              · have h2 := bv_b1.mp c45_14
                refine lv_iload_n (pc := 51) hx hb dX4_at_51 rfl (lv_at hl 1 rfl) ?_
                refine lv_if_ne (pc := 52) (tgt := 58) hx hb dX4_at_52 (by decide) (fun c52_15 => ?_) (fun c52_15 => ?_)
                · have h3 : a ≠ 0 := fun h => c52_15 (by rw [h]; rfl)
                  refine lv_iinc (pc := 58) (v := (nI (a - 1))) (lv' := [(3, .int (nI (a - 1))), (4, .int (nI t)), (0, .ref y), (1, .int (bv_b b)), (2, .int (nI x8))]) hx hb dX4_at_58 hl (k := 1) rfl (by have := pk_m1 (a - 1); rwa [Nat.sub_add_cancel (by omega)] at this) (by decide) rfl (fun ls hl => ?_)
                  refine lv_iinc (pc := 61) (v := (nI (t + 1))) (lv' := [(4, .int (nI (t + 1))), (3, .int (nI (a - 1))), (0, .ref y), (1, .int (bv_b b)), (2, .int (nI x8))]) hx hb dX4_at_61 hl (k := 1) rfl (nI_1 t) (by decide) rfl (fun ls hl => ?_)
                  refine lv_goto (pc := 64) (tgt := 23) hx hb dX4_at_64 (by decide) ?_
                  exact ih (t + 1) (a - 1) (by omega) (by omega) (by simp only [bv_cnt, if_pos h2]; omega) (by simp only [bv_fnd, hf]; rw [if_neg (fun h => h3 (by have := (nI_eq (by omega) (by omega)).mp h.2; omega))]) H _ hP hD hS ls (lv_sub hl [0, 1, 2, 3, 4] rfl)
                · have h3 : a = 0 := (bv_pn0 (by omega)).mp c52_15
                  refine lv_iload (pc := 55) hx hb dX4_at_55 (lv_at hl 0 rfl) ?_
                  have hP9 : va_P G vwCl [(y, .inr (4, [.int (nI (if ¬ (1 ≤ pn) then 1 else (if ¬ (bv_fnd (bv_is b bs bn (pf (pn - 1))) (nI x8) (2 ^ bn) ≠ none) then 2 else 0))), .int (nI pn), .ref yp, .int (nI bn), .ref yb, .ref yr, .ref yl])), (yp, .inl (cI, 12, .inl pf)), (yb, .inl (cI, 10, .inl bs)), (yr, .inl (cI, 10, .inl br)), (yl, .inl (cI, 16, .inl lv))] H := by rw [if_neg (not_not_intro hck0), if_neg (by rw [bv_fnd_hit hf h2 (by congr 1; omega) hkn]; simp)]; exact hP
                  exact W.iret (pc := 57) (v := (nI t)) hx hb hr (fun T8 hT8 hW8 => ⟨⟨(nI t), (), rfl, (by rw [if_neg (not_not_intro hck0), if_neg (by rw [bv_fnd_hit hf h2 (by congr 1; omega) hkn]; simp), bv_fnd_hit hf h2 (by congr 1; omega) hkn]; rfl), bv_hP hT8 hP9⟩, hS.F hT8⟩) hS.2.2 dX4_at_57
              · have h2 := bv_b0.mp c45_14
                refine lv_goto (pc := 48) (tgt := 61) hx hb dX4_at_48 (by decide) ?_
                refine lv_iinc (pc := 61) (v := (nI (t + 1))) (lv' := [(4, .int (nI (t + 1))), (3, .int (nI a)), (0, .ref y), (1, .int (bv_b b)), (2, .int (nI x8))]) hx hb dX4_at_61 hl (k := 0) rfl (nI_1 t) (by decide) rfl (fun ls hl => ?_)
                refine lv_goto (pc := 64) (tgt := 23) hx hb dX4_at_64 (by decide) ?_
                exact ih (t + 1) a (by omega) (by omega) (by simp only [bv_cnt, h2]; exact hi) (by simp only [bv_fnd, hf]; rw [if_neg (fun h => by rw [h2] at h; exact absurd h.1 (by decide))]) H _ hP hD hS ls (lv_sub hl [0, 1, 2, 3, 4] rfl)
      exact loop_23 (2 ^ bn - 0 + 1) 0 x8 (Nat.lt_succ_self _) (Nat.zero_le _) rfl rfl H _ hP hD hS ls (lv_sub hl [0, 1, 2, 3, 4] rfl)
  · have hbad : ¬ 1 ≤ pn := by
      have h : pn = 0 := (bv_pn0 (by omega)).mp c9_1
      omega
    refine lv_aload_n (pc := 12) hx hb dX4_at_12 rfl (lv_at hl 0 rfl) ?_
    refine lv_iconst (pc := 13) (v := 1) hx hb dX4_at_13 (by decide) ?_
    have hPc := hP.sub (ws' := [(y, .inr (4, [.int 0, .int (nI pn), .ref yp, .int (nI bn), .ref yb, .ref yr, .ref yl]))]) [0] rfl
    have hDc := hD.sub (ws' := [(y, .inr (4, [.int 0, .int (nI pn), .ref yp, .int (nI bn), .ref yb, .ref yr, .ref yl]))]) [0] (by decide) rfl
    have hFc := va_free (wc := [(y, .inr (4, [.int 0, .int (nI pn), .ref yp, .int (nI bn), .ref yb, .ref yr, .ref yl]))]) hD hS hA [0] rfl
    refine bv_cMi (pc := 14) (E' := 0) (va_runV (As := [.int 1]) (rest := []) ⟨hx, hb, hml, hown, hts⟩ (m_X4_no l G cI H.size y yp yb yr yl 0 (nI pn) (nI bn) 1 ) (cwV 1 hts gX4_at_X4_no rfl rfl rfl (by decide +kernel) ⟨Nat.le_of_ble_eq_true rfl, Nat.le_of_ble_eq_true rfl⟩) (bv_pV hE ⟨rfl, hPc, hDc.weaken (fun _ _ _ _ => trivial)⟩ (va_recv hK hP (ci := 4) (q0 := 0) rfl rfl)) rfl rfl hl.1 rfl (lv_room (Nat.le_of_ble_eq_true rfl)) dX4_at_14 ⟨Nat.le_of_ble_eq_true rfl, Nat.le_of_ble_eq_true rfl⟩) hS (fun q _ h => hFc q h) hFc rfl (fun t8 H1 locs ht8 hvm8 hB8 hz1 hk1 hS => ?_)
    have hP1 : va_P G vwCl [(y, .inr (4, [.int 1, .int (nI pn), .ref yp, .int (nI bn), .ref yb, .ref yr, .ref yl]))] H1 := by rw [← ht8]; exact hB8
    obtain ⟨hP, hD⟩ := va_join (wr := [(yp, .inl (cI, 12, .inl pf)), (yb, .inl (cI, 10, .inl bs)), (yr, .inl (cI, 10, .inl br)), (yl, .inl (cI, 16, .inl lv))]) (w1 := [(y, .inr (4, [.int 1, .int (nI pn), .ref yp, .int (nI bn), .ref yb, .ref yr, .ref yl]))]) hP hD [0] [1, 2, 3, 4] rfl rfl (by decide) (by decide) hk1 hFc hP1 (bv_Dm (w0 := [(y, .inr (4, [.int 0, .int (nI pn), .ref yp, .int (nI bn), .ref yb, .ref yr, .ref yl]))]) [y] rfl rfl hDc.self)
    have hP : va_P G vwCl [(y, .inr (4, [.int 1, .int (nI pn), .ref yp, .int (nI bn), .ref yb, .ref yr, .ref yl])), (yp, .inl (cI, 12, .inl pf)), (yb, .inl (cI, 10, .inl bs)), (yr, .inl (cI, 10, .inl br)), (yl, .inl (cI, 16, .inl lv))] H1 := hP.sub (ws' := [(y, .inr (4, [.int 1, .int (nI pn), .ref yp, .int (nI bn), .ref yb, .ref yr, .ref yl])), (yp, .inl (cI, 12, .inl pf)), (yb, .inl (cI, 10, .inl bs)), (yr, .inl (cI, 10, .inl br)), (yl, .inl (cI, 16, .inl lv))]) [4, 0, 1, 2, 3] rfl
    have hD : va_D A [(y, .inr (4, [.int 1, .int (nI pn), .ref yp, .int (nI bn), .ref yb, .ref yr, .ref yl])), (yp, .inl (cI, 12, .inl pf)), (yb, .inl (cI, 10, .inl bs)), (yr, .inl (cI, 10, .inl br)), (yl, .inl (cI, 16, .inl lv))] := hD.sub (ws' := [(y, .inr (4, [.int 1, .int (nI pn), .ref yp, .int (nI bn), .ref yb, .ref yr, .ref yl])), (yp, .inl (cI, 12, .inl pf)), (yb, .inl (cI, 10, .inl bs)), (yr, .inl (cI, 10, .inl br)), (yl, .inl (cI, 16, .inl lv))]) [4, 0, 1, 2, 3] (by decide) rfl
    generalize H1 = H at hP hS ⊢
    have hP9 : va_P G vwCl [(y, .inr (4, [.int (nI (if ¬ (1 ≤ pn) then 1 else (if ¬ (bv_fnd (bv_is b bs bn (pf (pn - 1))) i (2 ^ bn) ≠ none) then 2 else 0))), .int (nI pn), .ref yp, .int (nI bn), .ref yb, .ref yr, .ref yl])), (yp, .inl (cI, 12, .inl pf)), (yb, .inl (cI, 10, .inl bs)), (yr, .inl (cI, 10, .inl br)), (yl, .inl (cI, 16, .inl lv))] H := by rw [if_pos hbad]; exact hP
    exact W.iret (pc := 17) (v := 0) hx hb hr (fun T8 hT8 hW8 => ⟨⟨0, (), rfl, (by rw [if_pos hbad]; rfl), bv_hP hT8 hP9⟩, hS.F hT8⟩) hS.2.2 dX4_at_17
set_option maxHeartbeats 4000000 in
set_option maxRecDepth 100000 in
theorem m_X4_kernels (l : Launch) (G : va_G) (cI : ClassId) (sz : Nat) (y yp yb yr yl pn bn : Nat) (th : Int32) (pf bs br lv : Nat → Int32) (hp : pn ≤ 12) (hn : bn ≤ 10) : Met l yX4_kernels wsX4_kernels ({ frames := 6, cells := 0, slots := 0, locals := 135 }) (bv_P [.ref y] G cI (fun H => H.size = sz ∧ va_P G vwCl [(y, .inr (4, [.int th, .int (nI pn), .ref yp, .int (nI bn), .ref yb, .ref yr, .ref yl])), (yp, .inl (cI, 12, .inl pf)), (yb, .inl (cI, 10, .inl bs)), (yr, .inl (cI, 10, .inl br)), (yl, .inl (cI, 16, .inl lv))] H ∧ va_D (fun _ => True) [(y, .inr (4, [.int th, .int (nI pn), .ref yp, .int (nI bn), .ref yb, .ref yr, .ref yl])), (yp, .inl (cI, 12, .inl pf)), (yb, .inl (cI, 10, .inl bs)), (yr, .inl (cI, 10, .inl br)), (yl, .inl (cI, 16, .inl lv))])) (va_Qi (fun (r9 : Int32) (_ : Unit) => r9 = (bv_if (if ¬ (1 ≤ pn) then 1 else 0) (nI (bv_cnt (bv_is true bs bn (pf (pn - 1))) (2 ^ bn))) 0)) (fun (_ : Unit) (T9 : State) => va_P G vwCl [(y, .inr (4, [.int (nI (if ¬ (1 ≤ pn) then 1 else 0)), .int (nI pn), .ref yp, .int (nI bn), .ref yb, .ref yr, .ref yl])), (yp, .inl (cI, 12, .inl pf)), (yb, .inl (cI, 10, .inl bs)), (yr, .inl (cI, 10, .inl br)), (yl, .inl (cI, 16, .inl lv))] T9.heap) (va_A [(y, .inr (4, [.int th, .int (nI pn), .ref yp, .int (nI bn), .ref yb, .ref yr, .ref yl])), (yp, .inl (cI, 12, .inl pf)), (yb, .inl (cI, 10, .inl bs)), (yr, .inl (cI, 10, .inl br)), (yl, .inl (cI, 16, .inl lv))] sz)) 0 0 (va_A [(y, .inr (4, [.int th, .int (nI pn), .ref yp, .int (nI bn), .ref yb, .ref yr, .ref yl])), (yp, .inl (cI, 12, .inl pf)), (yb, .inl (cI, 10, .inl bs)), (yr, .inl (cI, 10, .inl br)), (yl, .inl (cI, 16, .inl lv))] sz) := by
  refine Met.ofW (cc := cX4_kernels) (maxL := 1) (ret := (some .int)) (by decide) rfl ?_
  intro p e s m args below meth c s₁ B hml hv
  obtain ⟨rfl, ⟨hsz, hP, hD0⟩, hE⟩ := hv
  have hx := B.exec
  have hb := B.bytes
  have hr := B.returns
  have hts := atoms_spec (ws := wsX4_kernels) B.pre
  have hown : s.vm.findClass RX4 = some m.cls := findClass_of_methodNamed B.named
  have hlocks := B.notSynchronized
  have hK := hE.1
  subst hsz
  have hD := hD0.self (sz := s.heap.size)
  generalize hAe : va_A [(y, .inr (4, [.int th, .int (nI pn), .ref yp, .int (nI bn), .ref yb, .ref yr, .ref yl])), (yp, .inl (cI, 12, .inl pf)), (yb, .inl (cI, 10, .inl bs)), (yr, .inl (cI, 10, .inl br)), (yl, .inl (cI, 16, .inl lv))] s.heap.size = A at hD ⊢
  have hA : ∀ q : Nat, s.heap.size ≤ q → A q := fun q h => by rw [← hAe]; exact Or.inr h
  have hS : va_S A s.heap s.heap [] := va_S.rf
  have hP : va_P G vwCl [(y, .inr (4, [.int th, .int (nI pn), .ref yp, .int (nI bn), .ref yb, .ref yr, .ref yl])), (yp, .inl (cI, 12, .inl pf)), (yb, .inl (cI, 10, .inl bs)), (yr, .inl (cI, 10, .inl br)), (yl, .inl (cI, 16, .inl lv))] s.heap := hP
  have hl := lv_entry ([.ref y]) (n := 1) (Nat.le_of_ble_eq_true rfl)
  rw [lg_entry_eq]
  generalize (lg_sl ([.ref y]) ++ List.replicate (1 - (lg_sl ([.ref y])).length) Slot.unset).toArray = ls at hl ⊢
  have hl : lv_has ls 1 [(0, .ref y)] := hl
  refine lv_aload_n (pc := 0) hx hb dX4_kernels_0 rfl (lv_at hl 0 rfl) ?_
  refine lv_iconst (pc := 1) (v := 1) hx hb dX4_kernels_1 (by decide) ?_
  have hPc := hP.sub (ws' := [(y, .inr (4, [.int th, .int (nI pn), .ref yp, .int (nI bn), .ref yb, .ref yr, .ref yl])), (yp, .inl (cI, 12, .inl pf)), (yb, .inl (cI, 10, .inl bs)), (yr, .inl (cI, 10, .inl br)), (yl, .inl (cI, 16, .inl lv))]) [0, 1, 2, 3, 4] rfl
  have hDc := hD.sub (ws' := [(y, .inr (4, [.int th, .int (nI pn), .ref yp, .int (nI bn), .ref yb, .ref yr, .ref yl])), (yp, .inl (cI, 12, .inl pf)), (yb, .inl (cI, 10, .inl bs)), (yr, .inl (cI, 10, .inl br)), (yl, .inl (cI, 16, .inl lv))]) [0, 1, 2, 3, 4] (by decide) rfl
  have hFc := va_free (wc := [(y, .inr (4, [.int th, .int (nI pn), .ref yp, .int (nI bn), .ref yb, .ref yr, .ref yl])), (yp, .inl (cI, 12, .inl pf)), (yb, .inl (cI, 10, .inl bs)), (yr, .inl (cI, 10, .inl br)), (yl, .inl (cI, 16, .inl lv))]) hD hS hA [0, 1, 2, 3, 4] rfl
  refine bv_cMi (pc := 2) (E' := (bv_if (if ¬ (1 ≤ pn) then 1 else 0) (nI (bv_cnt (bv_is true bs bn (pf (pn - 1))) (2 ^ bn))) 0)) (va_runV (As := [.int 1]) (rest := []) ⟨hx, hb, hml, hown, hts⟩ (m_X4_count l G cI s.heap.size y yp yb yr yl pn bn th pf bs br lv true (by first | assumption | omega) (by first | assumption | omega)) (cwV 1 hts gX4_kernels_X4_count rfl rfl rfl (by decide +kernel) ⟨Nat.le_of_ble_eq_true rfl, Nat.le_of_ble_eq_true rfl⟩) (bv_pV hE ⟨rfl, hPc, hDc.weaken (fun _ _ _ _ => trivial)⟩ (va_recv hK hP (ci := 4) (q0 := 0) rfl rfl)) rfl rfl hl.1 rfl (lv_room (Nat.le_of_ble_eq_true rfl)) dX4_kernels_2 ⟨Nat.le_of_ble_eq_true rfl, Nat.le_of_ble_eq_true rfl⟩) hS (fun q _ h => hFc q h) hFc rfl (fun t8 H1 locs ht8 hvm8 hB8 hz1 hk1 hS => ?_)
  have hP1 : va_P G vwCl [(y, .inr (4, [.int (nI (if ¬ (1 ≤ pn) then 1 else 0)), .int (nI pn), .ref yp, .int (nI bn), .ref yb, .ref yr, .ref yl])), (yp, .inl (cI, 12, .inl pf)), (yb, .inl (cI, 10, .inl bs)), (yr, .inl (cI, 10, .inl br)), (yl, .inl (cI, 16, .inl lv))] H1 := by rw [← ht8]; exact hB8
  obtain ⟨hP, hD⟩ := va_join (wr := []) (w1 := [(y, .inr (4, [.int (nI (if ¬ (1 ≤ pn) then 1 else 0)), .int (nI pn), .ref yp, .int (nI bn), .ref yb, .ref yr, .ref yl])), (yp, .inl (cI, 12, .inl pf)), (yb, .inl (cI, 10, .inl bs)), (yr, .inl (cI, 10, .inl br)), (yl, .inl (cI, 16, .inl lv))]) hP hD [0, 1, 2, 3, 4] [] rfl rfl (by decide) (by decide) hk1 hFc hP1 (bv_Dm (w0 := [(y, .inr (4, [.int th, .int (nI pn), .ref yp, .int (nI bn), .ref yb, .ref yr, .ref yl])), (yp, .inl (cI, 12, .inl pf)), (yb, .inl (cI, 10, .inl bs)), (yr, .inl (cI, 10, .inl br)), (yl, .inl (cI, 16, .inl lv))]) [y, yp, yb, yr, yl] rfl rfl hDc.self)
  have hP : va_P G vwCl [(y, .inr (4, [.int (nI (if ¬ (1 ≤ pn) then 1 else 0)), .int (nI pn), .ref yp, .int (nI bn), .ref yb, .ref yr, .ref yl])), (yp, .inl (cI, 12, .inl pf)), (yb, .inl (cI, 10, .inl bs)), (yr, .inl (cI, 10, .inl br)), (yl, .inl (cI, 16, .inl lv))] H1 := hP.sub (ws' := [(y, .inr (4, [.int (nI (if ¬ (1 ≤ pn) then 1 else 0)), .int (nI pn), .ref yp, .int (nI bn), .ref yb, .ref yr, .ref yl])), (yp, .inl (cI, 12, .inl pf)), (yb, .inl (cI, 10, .inl bs)), (yr, .inl (cI, 10, .inl br)), (yl, .inl (cI, 16, .inl lv))]) [0, 1, 2, 3, 4] rfl
  have hD : va_D A [(y, .inr (4, [.int (nI (if ¬ (1 ≤ pn) then 1 else 0)), .int (nI pn), .ref yp, .int (nI bn), .ref yb, .ref yr, .ref yl])), (yp, .inl (cI, 12, .inl pf)), (yb, .inl (cI, 10, .inl bs)), (yr, .inl (cI, 10, .inl br)), (yl, .inl (cI, 16, .inl lv))] := hD.sub (ws' := [(y, .inr (4, [.int (nI (if ¬ (1 ≤ pn) then 1 else 0)), .int (nI pn), .ref yp, .int (nI bn), .ref yb, .ref yr, .ref yl])), (yp, .inl (cI, 12, .inl pf)), (yb, .inl (cI, 10, .inl bs)), (yr, .inl (cI, 10, .inl br)), (yl, .inl (cI, 16, .inl lv))]) [0, 1, 2, 3, 4] (by decide) rfl
  generalize H1 = H at hP hS ⊢
  have hP9 : va_P G vwCl [(y, .inr (4, [.int (nI (if ¬ (1 ≤ pn) then 1 else 0)), .int (nI pn), .ref yp, .int (nI bn), .ref yb, .ref yr, .ref yl])), (yp, .inl (cI, 12, .inl pf)), (yb, .inl (cI, 10, .inl bs)), (yr, .inl (cI, 10, .inl br)), (yl, .inl (cI, 16, .inl lv))] H := hP
  exact W.iret (pc := 5) (v := (bv_if (if ¬ (1 ≤ pn) then 1 else 0) (nI (bv_cnt (bv_is true bs bn (pf (pn - 1))) (2 ^ bn))) 0)) hx hb hr (fun T8 hT8 hW8 => ⟨⟨(bv_if (if ¬ (1 ≤ pn) then 1 else 0) (nI (bv_cnt (bv_is true bs bn (pf (pn - 1))) (2 ^ bn))) 0), (), rfl, rfl, bv_hP hT8 hP9⟩, hS.F hT8⟩) hS.2.2 dX4_kernels_5
set_option maxHeartbeats 4000000 in
set_option maxRecDepth 100000 in
theorem m_X4_remainders (l : Launch) (G : va_G) (cI : ClassId) (sz : Nat) (y yp yb yr yl pn bn : Nat) (th : Int32) (pf bs br lv : Nat → Int32) (hp : pn ≤ 12) (hn : bn ≤ 10) : Met l yX4_remainders wsX4_remainders ({ frames := 6, cells := 0, slots := 0, locals := 135 }) (bv_P [.ref y] G cI (fun H => H.size = sz ∧ va_P G vwCl [(y, .inr (4, [.int th, .int (nI pn), .ref yp, .int (nI bn), .ref yb, .ref yr, .ref yl])), (yp, .inl (cI, 12, .inl pf)), (yb, .inl (cI, 10, .inl bs)), (yr, .inl (cI, 10, .inl br)), (yl, .inl (cI, 16, .inl lv))] H ∧ va_D (fun _ => True) [(y, .inr (4, [.int th, .int (nI pn), .ref yp, .int (nI bn), .ref yb, .ref yr, .ref yl])), (yp, .inl (cI, 12, .inl pf)), (yb, .inl (cI, 10, .inl bs)), (yr, .inl (cI, 10, .inl br)), (yl, .inl (cI, 16, .inl lv))])) (va_Qi (fun (r9 : Int32) (_ : Unit) => r9 = (bv_if (if ¬ (1 ≤ pn) then 1 else 0) (nI (bv_cnt (bv_is false bs bn (pf (pn - 1))) (2 ^ bn))) 0)) (fun (_ : Unit) (T9 : State) => va_P G vwCl [(y, .inr (4, [.int (nI (if ¬ (1 ≤ pn) then 1 else 0)), .int (nI pn), .ref yp, .int (nI bn), .ref yb, .ref yr, .ref yl])), (yp, .inl (cI, 12, .inl pf)), (yb, .inl (cI, 10, .inl bs)), (yr, .inl (cI, 10, .inl br)), (yl, .inl (cI, 16, .inl lv))] T9.heap) (va_A [(y, .inr (4, [.int th, .int (nI pn), .ref yp, .int (nI bn), .ref yb, .ref yr, .ref yl])), (yp, .inl (cI, 12, .inl pf)), (yb, .inl (cI, 10, .inl bs)), (yr, .inl (cI, 10, .inl br)), (yl, .inl (cI, 16, .inl lv))] sz)) 0 0 (va_A [(y, .inr (4, [.int th, .int (nI pn), .ref yp, .int (nI bn), .ref yb, .ref yr, .ref yl])), (yp, .inl (cI, 12, .inl pf)), (yb, .inl (cI, 10, .inl bs)), (yr, .inl (cI, 10, .inl br)), (yl, .inl (cI, 16, .inl lv))] sz) := by
  refine Met.ofW (cc := cX4_remainders) (maxL := 1) (ret := (some .int)) (by decide) rfl ?_
  intro p e s m args below meth c s₁ B hml hv
  obtain ⟨rfl, ⟨hsz, hP, hD0⟩, hE⟩ := hv
  have hx := B.exec
  have hb := B.bytes
  have hr := B.returns
  have hts := atoms_spec (ws := wsX4_remainders) B.pre
  have hown : s.vm.findClass RX4 = some m.cls := findClass_of_methodNamed B.named
  have hlocks := B.notSynchronized
  have hK := hE.1
  subst hsz
  have hD := hD0.self (sz := s.heap.size)
  generalize hAe : va_A [(y, .inr (4, [.int th, .int (nI pn), .ref yp, .int (nI bn), .ref yb, .ref yr, .ref yl])), (yp, .inl (cI, 12, .inl pf)), (yb, .inl (cI, 10, .inl bs)), (yr, .inl (cI, 10, .inl br)), (yl, .inl (cI, 16, .inl lv))] s.heap.size = A at hD ⊢
  have hA : ∀ q : Nat, s.heap.size ≤ q → A q := fun q h => by rw [← hAe]; exact Or.inr h
  have hS : va_S A s.heap s.heap [] := va_S.rf
  have hP : va_P G vwCl [(y, .inr (4, [.int th, .int (nI pn), .ref yp, .int (nI bn), .ref yb, .ref yr, .ref yl])), (yp, .inl (cI, 12, .inl pf)), (yb, .inl (cI, 10, .inl bs)), (yr, .inl (cI, 10, .inl br)), (yl, .inl (cI, 16, .inl lv))] s.heap := hP
  have hl := lv_entry ([.ref y]) (n := 1) (Nat.le_of_ble_eq_true rfl)
  rw [lg_entry_eq]
  generalize (lg_sl ([.ref y]) ++ List.replicate (1 - (lg_sl ([.ref y])).length) Slot.unset).toArray = ls at hl ⊢
  have hl : lv_has ls 1 [(0, .ref y)] := hl
  refine lv_aload_n (pc := 0) hx hb dX4_remainders_0 rfl (lv_at hl 0 rfl) ?_
  refine lv_iconst (pc := 1) (v := 0) hx hb dX4_remainders_1 (by decide) ?_
  have hPc := hP.sub (ws' := [(y, .inr (4, [.int th, .int (nI pn), .ref yp, .int (nI bn), .ref yb, .ref yr, .ref yl])), (yp, .inl (cI, 12, .inl pf)), (yb, .inl (cI, 10, .inl bs)), (yr, .inl (cI, 10, .inl br)), (yl, .inl (cI, 16, .inl lv))]) [0, 1, 2, 3, 4] rfl
  have hDc := hD.sub (ws' := [(y, .inr (4, [.int th, .int (nI pn), .ref yp, .int (nI bn), .ref yb, .ref yr, .ref yl])), (yp, .inl (cI, 12, .inl pf)), (yb, .inl (cI, 10, .inl bs)), (yr, .inl (cI, 10, .inl br)), (yl, .inl (cI, 16, .inl lv))]) [0, 1, 2, 3, 4] (by decide) rfl
  have hFc := va_free (wc := [(y, .inr (4, [.int th, .int (nI pn), .ref yp, .int (nI bn), .ref yb, .ref yr, .ref yl])), (yp, .inl (cI, 12, .inl pf)), (yb, .inl (cI, 10, .inl bs)), (yr, .inl (cI, 10, .inl br)), (yl, .inl (cI, 16, .inl lv))]) hD hS hA [0, 1, 2, 3, 4] rfl
  refine bv_cMi (pc := 2) (E' := (bv_if (if ¬ (1 ≤ pn) then 1 else 0) (nI (bv_cnt (bv_is false bs bn (pf (pn - 1))) (2 ^ bn))) 0)) (va_runV (As := [.int 0]) (rest := []) ⟨hx, hb, hml, hown, hts⟩ (m_X4_count l G cI s.heap.size y yp yb yr yl pn bn th pf bs br lv false (by first | assumption | omega) (by first | assumption | omega)) (cwV 1 hts gX4_remainders_X4_count rfl rfl rfl (by decide +kernel) ⟨Nat.le_of_ble_eq_true rfl, Nat.le_of_ble_eq_true rfl⟩) (bv_pV hE ⟨rfl, hPc, hDc.weaken (fun _ _ _ _ => trivial)⟩ (va_recv hK hP (ci := 4) (q0 := 0) rfl rfl)) rfl rfl hl.1 rfl (lv_room (Nat.le_of_ble_eq_true rfl)) dX4_remainders_2 ⟨Nat.le_of_ble_eq_true rfl, Nat.le_of_ble_eq_true rfl⟩) hS (fun q _ h => hFc q h) hFc rfl (fun t8 H1 locs ht8 hvm8 hB8 hz1 hk1 hS => ?_)
  have hP1 : va_P G vwCl [(y, .inr (4, [.int (nI (if ¬ (1 ≤ pn) then 1 else 0)), .int (nI pn), .ref yp, .int (nI bn), .ref yb, .ref yr, .ref yl])), (yp, .inl (cI, 12, .inl pf)), (yb, .inl (cI, 10, .inl bs)), (yr, .inl (cI, 10, .inl br)), (yl, .inl (cI, 16, .inl lv))] H1 := by rw [← ht8]; exact hB8
  obtain ⟨hP, hD⟩ := va_join (wr := []) (w1 := [(y, .inr (4, [.int (nI (if ¬ (1 ≤ pn) then 1 else 0)), .int (nI pn), .ref yp, .int (nI bn), .ref yb, .ref yr, .ref yl])), (yp, .inl (cI, 12, .inl pf)), (yb, .inl (cI, 10, .inl bs)), (yr, .inl (cI, 10, .inl br)), (yl, .inl (cI, 16, .inl lv))]) hP hD [0, 1, 2, 3, 4] [] rfl rfl (by decide) (by decide) hk1 hFc hP1 (bv_Dm (w0 := [(y, .inr (4, [.int th, .int (nI pn), .ref yp, .int (nI bn), .ref yb, .ref yr, .ref yl])), (yp, .inl (cI, 12, .inl pf)), (yb, .inl (cI, 10, .inl bs)), (yr, .inl (cI, 10, .inl br)), (yl, .inl (cI, 16, .inl lv))]) [y, yp, yb, yr, yl] rfl rfl hDc.self)
  have hP : va_P G vwCl [(y, .inr (4, [.int (nI (if ¬ (1 ≤ pn) then 1 else 0)), .int (nI pn), .ref yp, .int (nI bn), .ref yb, .ref yr, .ref yl])), (yp, .inl (cI, 12, .inl pf)), (yb, .inl (cI, 10, .inl bs)), (yr, .inl (cI, 10, .inl br)), (yl, .inl (cI, 16, .inl lv))] H1 := hP.sub (ws' := [(y, .inr (4, [.int (nI (if ¬ (1 ≤ pn) then 1 else 0)), .int (nI pn), .ref yp, .int (nI bn), .ref yb, .ref yr, .ref yl])), (yp, .inl (cI, 12, .inl pf)), (yb, .inl (cI, 10, .inl bs)), (yr, .inl (cI, 10, .inl br)), (yl, .inl (cI, 16, .inl lv))]) [0, 1, 2, 3, 4] rfl
  have hD : va_D A [(y, .inr (4, [.int (nI (if ¬ (1 ≤ pn) then 1 else 0)), .int (nI pn), .ref yp, .int (nI bn), .ref yb, .ref yr, .ref yl])), (yp, .inl (cI, 12, .inl pf)), (yb, .inl (cI, 10, .inl bs)), (yr, .inl (cI, 10, .inl br)), (yl, .inl (cI, 16, .inl lv))] := hD.sub (ws' := [(y, .inr (4, [.int (nI (if ¬ (1 ≤ pn) then 1 else 0)), .int (nI pn), .ref yp, .int (nI bn), .ref yb, .ref yr, .ref yl])), (yp, .inl (cI, 12, .inl pf)), (yb, .inl (cI, 10, .inl bs)), (yr, .inl (cI, 10, .inl br)), (yl, .inl (cI, 16, .inl lv))]) [0, 1, 2, 3, 4] (by decide) rfl
  generalize H1 = H at hP hS ⊢
  have hP9 : va_P G vwCl [(y, .inr (4, [.int (nI (if ¬ (1 ≤ pn) then 1 else 0)), .int (nI pn), .ref yp, .int (nI bn), .ref yb, .ref yr, .ref yl])), (yp, .inl (cI, 12, .inl pf)), (yb, .inl (cI, 10, .inl bs)), (yr, .inl (cI, 10, .inl br)), (yl, .inl (cI, 16, .inl lv))] H := hP
  exact W.iret (pc := 5) (v := (bv_if (if ¬ (1 ≤ pn) then 1 else 0) (nI (bv_cnt (bv_is false bs bn (pf (pn - 1))) (2 ^ bn))) 0)) hx hb hr (fun T8 hT8 hW8 => ⟨⟨(bv_if (if ¬ (1 ≤ pn) then 1 else 0) (nI (bv_cnt (bv_is false bs bn (pf (pn - 1))) (2 ^ bn))) 0), (), rfl, rfl, bv_hP hT8 hP9⟩, hS.F hT8⟩) hS.2.2 dX4_remainders_5
set_option maxHeartbeats 4000000 in
set_option maxRecDepth 100000 in
theorem m_X4_kernel (l : Launch) (G : va_G) (cI : ClassId) (sz : Nat) (y yp yb yr yl pn bn : Nat) (th : Int32) (pf bs br lv : Nat → Int32) (i : Int32) (hp : pn ≤ 12) (hn : bn ≤ 10) : Met l yX4_kernel wsX4_kernel ({ frames := 6, cells := 0, slots := 0, locals := 136 }) (bv_P [.ref y, .int i] G cI (fun H => H.size = sz ∧ va_P G vwCl [(y, .inr (4, [.int th, .int (nI pn), .ref yp, .int (nI bn), .ref yb, .ref yr, .ref yl])), (yp, .inl (cI, 12, .inl pf)), (yb, .inl (cI, 10, .inl bs)), (yr, .inl (cI, 10, .inl br)), (yl, .inl (cI, 16, .inl lv))] H ∧ va_D (fun _ => True) [(y, .inr (4, [.int th, .int (nI pn), .ref yp, .int (nI bn), .ref yb, .ref yr, .ref yl])), (yp, .inl (cI, 12, .inl pf)), (yb, .inl (cI, 10, .inl bs)), (yr, .inl (cI, 10, .inl br)), (yl, .inl (cI, 16, .inl lv))])) (va_Qi (fun (r9 : Int32) (_ : Unit) => r9 = (bv_if (if ¬ (1 ≤ pn) then 1 else (if ¬ (bv_fnd (bv_is true bs bn (pf (pn - 1))) i (2 ^ bn) ≠ none) then 2 else 0)) (bv_oI (bv_fnd (bv_is true bs bn (pf (pn - 1))) i (2 ^ bn))) 0)) (fun (_ : Unit) (T9 : State) => va_P G vwCl [(y, .inr (4, [.int (nI (if ¬ (1 ≤ pn) then 1 else (if ¬ (bv_fnd (bv_is true bs bn (pf (pn - 1))) i (2 ^ bn) ≠ none) then 2 else 0))), .int (nI pn), .ref yp, .int (nI bn), .ref yb, .ref yr, .ref yl])), (yp, .inl (cI, 12, .inl pf)), (yb, .inl (cI, 10, .inl bs)), (yr, .inl (cI, 10, .inl br)), (yl, .inl (cI, 16, .inl lv))] T9.heap) (va_A [(y, .inr (4, [.int th, .int (nI pn), .ref yp, .int (nI bn), .ref yb, .ref yr, .ref yl])), (yp, .inl (cI, 12, .inl pf)), (yb, .inl (cI, 10, .inl bs)), (yr, .inl (cI, 10, .inl br)), (yl, .inl (cI, 16, .inl lv))] sz)) 0 0 (va_A [(y, .inr (4, [.int th, .int (nI pn), .ref yp, .int (nI bn), .ref yb, .ref yr, .ref yl])), (yp, .inl (cI, 12, .inl pf)), (yb, .inl (cI, 10, .inl bs)), (yr, .inl (cI, 10, .inl br)), (yl, .inl (cI, 16, .inl lv))] sz) := by
  refine Met.ofW (cc := cX4_kernel) (maxL := 2) (ret := (some .int)) (by decide) rfl ?_
  intro p e s m args below meth c s₁ B hml hv
  obtain ⟨rfl, ⟨hsz, hP, hD0⟩, hE⟩ := hv
  have hx := B.exec
  have hb := B.bytes
  have hr := B.returns
  have hts := atoms_spec (ws := wsX4_kernel) B.pre
  have hown : s.vm.findClass RX4 = some m.cls := findClass_of_methodNamed B.named
  have hlocks := B.notSynchronized
  have hK := hE.1
  subst hsz
  have hD := hD0.self (sz := s.heap.size)
  generalize hAe : va_A [(y, .inr (4, [.int th, .int (nI pn), .ref yp, .int (nI bn), .ref yb, .ref yr, .ref yl])), (yp, .inl (cI, 12, .inl pf)), (yb, .inl (cI, 10, .inl bs)), (yr, .inl (cI, 10, .inl br)), (yl, .inl (cI, 16, .inl lv))] s.heap.size = A at hD ⊢
  have hA : ∀ q : Nat, s.heap.size ≤ q → A q := fun q h => by rw [← hAe]; exact Or.inr h
  have hS : va_S A s.heap s.heap [] := va_S.rf
  have hP : va_P G vwCl [(y, .inr (4, [.int th, .int (nI pn), .ref yp, .int (nI bn), .ref yb, .ref yr, .ref yl])), (yp, .inl (cI, 12, .inl pf)), (yb, .inl (cI, 10, .inl bs)), (yr, .inl (cI, 10, .inl br)), (yl, .inl (cI, 16, .inl lv))] s.heap := hP
  have hl := lv_entry ([.ref y, .int i]) (n := 2) (Nat.le_of_ble_eq_true rfl)
  rw [lg_entry_eq]
  generalize (lg_sl ([.ref y, .int i]) ++ List.replicate (2 - (lg_sl ([.ref y, .int i])).length) Slot.unset).toArray = ls at hl ⊢
  have hl : lv_has ls 2 [(0, .ref y), (1, .int i)] := hl
  refine lv_aload_n (pc := 0) hx hb dX4_kernel_0 rfl (lv_at hl 0 rfl) ?_
  refine lv_iconst (pc := 1) (v := 1) hx hb dX4_kernel_1 (by decide) ?_
  refine lv_iload_n (pc := 2) hx hb dX4_kernel_2 rfl (lv_at hl 1 rfl) ?_
  have hPc := hP.sub (ws' := [(y, .inr (4, [.int th, .int (nI pn), .ref yp, .int (nI bn), .ref yb, .ref yr, .ref yl])), (yp, .inl (cI, 12, .inl pf)), (yb, .inl (cI, 10, .inl bs)), (yr, .inl (cI, 10, .inl br)), (yl, .inl (cI, 16, .inl lv))]) [0, 1, 2, 3, 4] rfl
  have hDc := hD.sub (ws' := [(y, .inr (4, [.int th, .int (nI pn), .ref yp, .int (nI bn), .ref yb, .ref yr, .ref yl])), (yp, .inl (cI, 12, .inl pf)), (yb, .inl (cI, 10, .inl bs)), (yr, .inl (cI, 10, .inl br)), (yl, .inl (cI, 16, .inl lv))]) [0, 1, 2, 3, 4] (by decide) rfl
  have hFc := va_free (wc := [(y, .inr (4, [.int th, .int (nI pn), .ref yp, .int (nI bn), .ref yb, .ref yr, .ref yl])), (yp, .inl (cI, 12, .inl pf)), (yb, .inl (cI, 10, .inl bs)), (yr, .inl (cI, 10, .inl br)), (yl, .inl (cI, 16, .inl lv))]) hD hS hA [0, 1, 2, 3, 4] rfl
  refine bv_cMi (pc := 3) (E' := (bv_if (if ¬ (1 ≤ pn) then 1 else (if ¬ (bv_fnd (bv_is true bs bn (pf (pn - 1))) i (2 ^ bn) ≠ none) then 2 else 0)) (bv_oI (bv_fnd (bv_is true bs bn (pf (pn - 1))) i (2 ^ bn))) 0)) (va_runV (As := [.int 1, .int i]) (rest := []) ⟨hx, hb, hml, hown, hts⟩ (m_X4_at l G cI s.heap.size y yp yb yr yl pn bn th pf bs br lv true i (by first | assumption | omega) (by first | assumption | omega)) (cwV 2 hts gX4_kernel_X4_at rfl rfl rfl (by decide +kernel) ⟨Nat.le_of_ble_eq_true rfl, Nat.le_of_ble_eq_true rfl⟩) (bv_pV hE ⟨rfl, hPc, hDc.weaken (fun _ _ _ _ => trivial)⟩ (va_recv hK hP (ci := 4) (q0 := 0) rfl rfl)) rfl rfl hl.1 rfl (lv_room (Nat.le_of_ble_eq_true rfl)) dX4_kernel_3 ⟨Nat.le_of_ble_eq_true rfl, Nat.le_of_ble_eq_true rfl⟩) hS (fun q _ h => hFc q h) hFc rfl (fun t8 H1 locs ht8 hvm8 hB8 hz1 hk1 hS => ?_)
  have hP1 : va_P G vwCl [(y, .inr (4, [.int (nI (if ¬ (1 ≤ pn) then 1 else (if ¬ (bv_fnd (bv_is true bs bn (pf (pn - 1))) i (2 ^ bn) ≠ none) then 2 else 0))), .int (nI pn), .ref yp, .int (nI bn), .ref yb, .ref yr, .ref yl])), (yp, .inl (cI, 12, .inl pf)), (yb, .inl (cI, 10, .inl bs)), (yr, .inl (cI, 10, .inl br)), (yl, .inl (cI, 16, .inl lv))] H1 := by rw [← ht8]; exact hB8
  obtain ⟨hP, hD⟩ := va_join (wr := []) (w1 := [(y, .inr (4, [.int (nI (if ¬ (1 ≤ pn) then 1 else (if ¬ (bv_fnd (bv_is true bs bn (pf (pn - 1))) i (2 ^ bn) ≠ none) then 2 else 0))), .int (nI pn), .ref yp, .int (nI bn), .ref yb, .ref yr, .ref yl])), (yp, .inl (cI, 12, .inl pf)), (yb, .inl (cI, 10, .inl bs)), (yr, .inl (cI, 10, .inl br)), (yl, .inl (cI, 16, .inl lv))]) hP hD [0, 1, 2, 3, 4] [] rfl rfl (by decide) (by decide) hk1 hFc hP1 (bv_Dm (w0 := [(y, .inr (4, [.int th, .int (nI pn), .ref yp, .int (nI bn), .ref yb, .ref yr, .ref yl])), (yp, .inl (cI, 12, .inl pf)), (yb, .inl (cI, 10, .inl bs)), (yr, .inl (cI, 10, .inl br)), (yl, .inl (cI, 16, .inl lv))]) [y, yp, yb, yr, yl] rfl rfl hDc.self)
  have hP : va_P G vwCl [(y, .inr (4, [.int (nI (if ¬ (1 ≤ pn) then 1 else (if ¬ (bv_fnd (bv_is true bs bn (pf (pn - 1))) i (2 ^ bn) ≠ none) then 2 else 0))), .int (nI pn), .ref yp, .int (nI bn), .ref yb, .ref yr, .ref yl])), (yp, .inl (cI, 12, .inl pf)), (yb, .inl (cI, 10, .inl bs)), (yr, .inl (cI, 10, .inl br)), (yl, .inl (cI, 16, .inl lv))] H1 := hP.sub (ws' := [(y, .inr (4, [.int (nI (if ¬ (1 ≤ pn) then 1 else (if ¬ (bv_fnd (bv_is true bs bn (pf (pn - 1))) i (2 ^ bn) ≠ none) then 2 else 0))), .int (nI pn), .ref yp, .int (nI bn), .ref yb, .ref yr, .ref yl])), (yp, .inl (cI, 12, .inl pf)), (yb, .inl (cI, 10, .inl bs)), (yr, .inl (cI, 10, .inl br)), (yl, .inl (cI, 16, .inl lv))]) [0, 1, 2, 3, 4] rfl
  have hD : va_D A [(y, .inr (4, [.int (nI (if ¬ (1 ≤ pn) then 1 else (if ¬ (bv_fnd (bv_is true bs bn (pf (pn - 1))) i (2 ^ bn) ≠ none) then 2 else 0))), .int (nI pn), .ref yp, .int (nI bn), .ref yb, .ref yr, .ref yl])), (yp, .inl (cI, 12, .inl pf)), (yb, .inl (cI, 10, .inl bs)), (yr, .inl (cI, 10, .inl br)), (yl, .inl (cI, 16, .inl lv))] := hD.sub (ws' := [(y, .inr (4, [.int (nI (if ¬ (1 ≤ pn) then 1 else (if ¬ (bv_fnd (bv_is true bs bn (pf (pn - 1))) i (2 ^ bn) ≠ none) then 2 else 0))), .int (nI pn), .ref yp, .int (nI bn), .ref yb, .ref yr, .ref yl])), (yp, .inl (cI, 12, .inl pf)), (yb, .inl (cI, 10, .inl bs)), (yr, .inl (cI, 10, .inl br)), (yl, .inl (cI, 16, .inl lv))]) [0, 1, 2, 3, 4] (by decide) rfl
  generalize H1 = H at hP hS ⊢
  have hP9 : va_P G vwCl [(y, .inr (4, [.int (nI (if ¬ (1 ≤ pn) then 1 else (if ¬ (bv_fnd (bv_is true bs bn (pf (pn - 1))) i (2 ^ bn) ≠ none) then 2 else 0))), .int (nI pn), .ref yp, .int (nI bn), .ref yb, .ref yr, .ref yl])), (yp, .inl (cI, 12, .inl pf)), (yb, .inl (cI, 10, .inl bs)), (yr, .inl (cI, 10, .inl br)), (yl, .inl (cI, 16, .inl lv))] H := hP
  exact W.iret (pc := 6) (v := (bv_if (if ¬ (1 ≤ pn) then 1 else (if ¬ (bv_fnd (bv_is true bs bn (pf (pn - 1))) i (2 ^ bn) ≠ none) then 2 else 0)) (bv_oI (bv_fnd (bv_is true bs bn (pf (pn - 1))) i (2 ^ bn))) 0)) hx hb hr (fun T8 hT8 hW8 => ⟨⟨(bv_if (if ¬ (1 ≤ pn) then 1 else (if ¬ (bv_fnd (bv_is true bs bn (pf (pn - 1))) i (2 ^ bn) ≠ none) then 2 else 0)) (bv_oI (bv_fnd (bv_is true bs bn (pf (pn - 1))) i (2 ^ bn))) 0), (), rfl, rfl, bv_hP hT8 hP9⟩, hS.F hT8⟩) hS.2.2 dX4_kernel_6
set_option maxHeartbeats 4000000 in
set_option maxRecDepth 100000 in
theorem m_X4_remainder (l : Launch) (G : va_G) (cI : ClassId) (sz : Nat) (y yp yb yr yl pn bn : Nat) (th : Int32) (pf bs br lv : Nat → Int32) (i : Int32) (hp : pn ≤ 12) (hn : bn ≤ 10) : Met l yX4_remainder wsX4_remainder ({ frames := 6, cells := 0, slots := 0, locals := 136 }) (bv_P [.ref y, .int i] G cI (fun H => H.size = sz ∧ va_P G vwCl [(y, .inr (4, [.int th, .int (nI pn), .ref yp, .int (nI bn), .ref yb, .ref yr, .ref yl])), (yp, .inl (cI, 12, .inl pf)), (yb, .inl (cI, 10, .inl bs)), (yr, .inl (cI, 10, .inl br)), (yl, .inl (cI, 16, .inl lv))] H ∧ va_D (fun _ => True) [(y, .inr (4, [.int th, .int (nI pn), .ref yp, .int (nI bn), .ref yb, .ref yr, .ref yl])), (yp, .inl (cI, 12, .inl pf)), (yb, .inl (cI, 10, .inl bs)), (yr, .inl (cI, 10, .inl br)), (yl, .inl (cI, 16, .inl lv))])) (va_Qi (fun (r9 : Int32) (_ : Unit) => r9 = (bv_if (if ¬ (1 ≤ pn) then 1 else (if ¬ (bv_fnd (bv_is false bs bn (pf (pn - 1))) i (2 ^ bn) ≠ none) then 2 else 0)) (bv_oI (bv_fnd (bv_is false bs bn (pf (pn - 1))) i (2 ^ bn))) 0)) (fun (_ : Unit) (T9 : State) => va_P G vwCl [(y, .inr (4, [.int (nI (if ¬ (1 ≤ pn) then 1 else (if ¬ (bv_fnd (bv_is false bs bn (pf (pn - 1))) i (2 ^ bn) ≠ none) then 2 else 0))), .int (nI pn), .ref yp, .int (nI bn), .ref yb, .ref yr, .ref yl])), (yp, .inl (cI, 12, .inl pf)), (yb, .inl (cI, 10, .inl bs)), (yr, .inl (cI, 10, .inl br)), (yl, .inl (cI, 16, .inl lv))] T9.heap) (va_A [(y, .inr (4, [.int th, .int (nI pn), .ref yp, .int (nI bn), .ref yb, .ref yr, .ref yl])), (yp, .inl (cI, 12, .inl pf)), (yb, .inl (cI, 10, .inl bs)), (yr, .inl (cI, 10, .inl br)), (yl, .inl (cI, 16, .inl lv))] sz)) 0 0 (va_A [(y, .inr (4, [.int th, .int (nI pn), .ref yp, .int (nI bn), .ref yb, .ref yr, .ref yl])), (yp, .inl (cI, 12, .inl pf)), (yb, .inl (cI, 10, .inl bs)), (yr, .inl (cI, 10, .inl br)), (yl, .inl (cI, 16, .inl lv))] sz) := by
  refine Met.ofW (cc := cX4_remainder) (maxL := 2) (ret := (some .int)) (by decide) rfl ?_
  intro p e s m args below meth c s₁ B hml hv
  obtain ⟨rfl, ⟨hsz, hP, hD0⟩, hE⟩ := hv
  have hx := B.exec
  have hb := B.bytes
  have hr := B.returns
  have hts := atoms_spec (ws := wsX4_remainder) B.pre
  have hown : s.vm.findClass RX4 = some m.cls := findClass_of_methodNamed B.named
  have hlocks := B.notSynchronized
  have hK := hE.1
  subst hsz
  have hD := hD0.self (sz := s.heap.size)
  generalize hAe : va_A [(y, .inr (4, [.int th, .int (nI pn), .ref yp, .int (nI bn), .ref yb, .ref yr, .ref yl])), (yp, .inl (cI, 12, .inl pf)), (yb, .inl (cI, 10, .inl bs)), (yr, .inl (cI, 10, .inl br)), (yl, .inl (cI, 16, .inl lv))] s.heap.size = A at hD ⊢
  have hA : ∀ q : Nat, s.heap.size ≤ q → A q := fun q h => by rw [← hAe]; exact Or.inr h
  have hS : va_S A s.heap s.heap [] := va_S.rf
  have hP : va_P G vwCl [(y, .inr (4, [.int th, .int (nI pn), .ref yp, .int (nI bn), .ref yb, .ref yr, .ref yl])), (yp, .inl (cI, 12, .inl pf)), (yb, .inl (cI, 10, .inl bs)), (yr, .inl (cI, 10, .inl br)), (yl, .inl (cI, 16, .inl lv))] s.heap := hP
  have hl := lv_entry ([.ref y, .int i]) (n := 2) (Nat.le_of_ble_eq_true rfl)
  rw [lg_entry_eq]
  generalize (lg_sl ([.ref y, .int i]) ++ List.replicate (2 - (lg_sl ([.ref y, .int i])).length) Slot.unset).toArray = ls at hl ⊢
  have hl : lv_has ls 2 [(0, .ref y), (1, .int i)] := hl
  refine lv_aload_n (pc := 0) hx hb dX4_remainder_0 rfl (lv_at hl 0 rfl) ?_
  refine lv_iconst (pc := 1) (v := 0) hx hb dX4_remainder_1 (by decide) ?_
  refine lv_iload_n (pc := 2) hx hb dX4_remainder_2 rfl (lv_at hl 1 rfl) ?_
  have hPc := hP.sub (ws' := [(y, .inr (4, [.int th, .int (nI pn), .ref yp, .int (nI bn), .ref yb, .ref yr, .ref yl])), (yp, .inl (cI, 12, .inl pf)), (yb, .inl (cI, 10, .inl bs)), (yr, .inl (cI, 10, .inl br)), (yl, .inl (cI, 16, .inl lv))]) [0, 1, 2, 3, 4] rfl
  have hDc := hD.sub (ws' := [(y, .inr (4, [.int th, .int (nI pn), .ref yp, .int (nI bn), .ref yb, .ref yr, .ref yl])), (yp, .inl (cI, 12, .inl pf)), (yb, .inl (cI, 10, .inl bs)), (yr, .inl (cI, 10, .inl br)), (yl, .inl (cI, 16, .inl lv))]) [0, 1, 2, 3, 4] (by decide) rfl
  have hFc := va_free (wc := [(y, .inr (4, [.int th, .int (nI pn), .ref yp, .int (nI bn), .ref yb, .ref yr, .ref yl])), (yp, .inl (cI, 12, .inl pf)), (yb, .inl (cI, 10, .inl bs)), (yr, .inl (cI, 10, .inl br)), (yl, .inl (cI, 16, .inl lv))]) hD hS hA [0, 1, 2, 3, 4] rfl
  refine bv_cMi (pc := 3) (E' := (bv_if (if ¬ (1 ≤ pn) then 1 else (if ¬ (bv_fnd (bv_is false bs bn (pf (pn - 1))) i (2 ^ bn) ≠ none) then 2 else 0)) (bv_oI (bv_fnd (bv_is false bs bn (pf (pn - 1))) i (2 ^ bn))) 0)) (va_runV (As := [.int 0, .int i]) (rest := []) ⟨hx, hb, hml, hown, hts⟩ (m_X4_at l G cI s.heap.size y yp yb yr yl pn bn th pf bs br lv false i (by first | assumption | omega) (by first | assumption | omega)) (cwV 2 hts gX4_remainder_X4_at rfl rfl rfl (by decide +kernel) ⟨Nat.le_of_ble_eq_true rfl, Nat.le_of_ble_eq_true rfl⟩) (bv_pV hE ⟨rfl, hPc, hDc.weaken (fun _ _ _ _ => trivial)⟩ (va_recv hK hP (ci := 4) (q0 := 0) rfl rfl)) rfl rfl hl.1 rfl (lv_room (Nat.le_of_ble_eq_true rfl)) dX4_remainder_3 ⟨Nat.le_of_ble_eq_true rfl, Nat.le_of_ble_eq_true rfl⟩) hS (fun q _ h => hFc q h) hFc rfl (fun t8 H1 locs ht8 hvm8 hB8 hz1 hk1 hS => ?_)
  have hP1 : va_P G vwCl [(y, .inr (4, [.int (nI (if ¬ (1 ≤ pn) then 1 else (if ¬ (bv_fnd (bv_is false bs bn (pf (pn - 1))) i (2 ^ bn) ≠ none) then 2 else 0))), .int (nI pn), .ref yp, .int (nI bn), .ref yb, .ref yr, .ref yl])), (yp, .inl (cI, 12, .inl pf)), (yb, .inl (cI, 10, .inl bs)), (yr, .inl (cI, 10, .inl br)), (yl, .inl (cI, 16, .inl lv))] H1 := by rw [← ht8]; exact hB8
  obtain ⟨hP, hD⟩ := va_join (wr := []) (w1 := [(y, .inr (4, [.int (nI (if ¬ (1 ≤ pn) then 1 else (if ¬ (bv_fnd (bv_is false bs bn (pf (pn - 1))) i (2 ^ bn) ≠ none) then 2 else 0))), .int (nI pn), .ref yp, .int (nI bn), .ref yb, .ref yr, .ref yl])), (yp, .inl (cI, 12, .inl pf)), (yb, .inl (cI, 10, .inl bs)), (yr, .inl (cI, 10, .inl br)), (yl, .inl (cI, 16, .inl lv))]) hP hD [0, 1, 2, 3, 4] [] rfl rfl (by decide) (by decide) hk1 hFc hP1 (bv_Dm (w0 := [(y, .inr (4, [.int th, .int (nI pn), .ref yp, .int (nI bn), .ref yb, .ref yr, .ref yl])), (yp, .inl (cI, 12, .inl pf)), (yb, .inl (cI, 10, .inl bs)), (yr, .inl (cI, 10, .inl br)), (yl, .inl (cI, 16, .inl lv))]) [y, yp, yb, yr, yl] rfl rfl hDc.self)
  have hP : va_P G vwCl [(y, .inr (4, [.int (nI (if ¬ (1 ≤ pn) then 1 else (if ¬ (bv_fnd (bv_is false bs bn (pf (pn - 1))) i (2 ^ bn) ≠ none) then 2 else 0))), .int (nI pn), .ref yp, .int (nI bn), .ref yb, .ref yr, .ref yl])), (yp, .inl (cI, 12, .inl pf)), (yb, .inl (cI, 10, .inl bs)), (yr, .inl (cI, 10, .inl br)), (yl, .inl (cI, 16, .inl lv))] H1 := hP.sub (ws' := [(y, .inr (4, [.int (nI (if ¬ (1 ≤ pn) then 1 else (if ¬ (bv_fnd (bv_is false bs bn (pf (pn - 1))) i (2 ^ bn) ≠ none) then 2 else 0))), .int (nI pn), .ref yp, .int (nI bn), .ref yb, .ref yr, .ref yl])), (yp, .inl (cI, 12, .inl pf)), (yb, .inl (cI, 10, .inl bs)), (yr, .inl (cI, 10, .inl br)), (yl, .inl (cI, 16, .inl lv))]) [0, 1, 2, 3, 4] rfl
  have hD : va_D A [(y, .inr (4, [.int (nI (if ¬ (1 ≤ pn) then 1 else (if ¬ (bv_fnd (bv_is false bs bn (pf (pn - 1))) i (2 ^ bn) ≠ none) then 2 else 0))), .int (nI pn), .ref yp, .int (nI bn), .ref yb, .ref yr, .ref yl])), (yp, .inl (cI, 12, .inl pf)), (yb, .inl (cI, 10, .inl bs)), (yr, .inl (cI, 10, .inl br)), (yl, .inl (cI, 16, .inl lv))] := hD.sub (ws' := [(y, .inr (4, [.int (nI (if ¬ (1 ≤ pn) then 1 else (if ¬ (bv_fnd (bv_is false bs bn (pf (pn - 1))) i (2 ^ bn) ≠ none) then 2 else 0))), .int (nI pn), .ref yp, .int (nI bn), .ref yb, .ref yr, .ref yl])), (yp, .inl (cI, 12, .inl pf)), (yb, .inl (cI, 10, .inl bs)), (yr, .inl (cI, 10, .inl br)), (yl, .inl (cI, 16, .inl lv))]) [0, 1, 2, 3, 4] (by decide) rfl
  generalize H1 = H at hP hS ⊢
  have hP9 : va_P G vwCl [(y, .inr (4, [.int (nI (if ¬ (1 ≤ pn) then 1 else (if ¬ (bv_fnd (bv_is false bs bn (pf (pn - 1))) i (2 ^ bn) ≠ none) then 2 else 0))), .int (nI pn), .ref yp, .int (nI bn), .ref yb, .ref yr, .ref yl])), (yp, .inl (cI, 12, .inl pf)), (yb, .inl (cI, 10, .inl bs)), (yr, .inl (cI, 10, .inl br)), (yl, .inl (cI, 16, .inl lv))] H := hP
  exact W.iret (pc := 6) (v := (bv_if (if ¬ (1 ≤ pn) then 1 else (if ¬ (bv_fnd (bv_is false bs bn (pf (pn - 1))) i (2 ^ bn) ≠ none) then 2 else 0)) (bv_oI (bv_fnd (bv_is false bs bn (pf (pn - 1))) i (2 ^ bn))) 0)) hx hb hr (fun T8 hT8 hW8 => ⟨⟨(bv_if (if ¬ (1 ≤ pn) then 1 else (if ¬ (bv_fnd (bv_is false bs bn (pf (pn - 1))) i (2 ^ bn) ≠ none) then 2 else 0)) (bv_oI (bv_fnd (bv_is false bs bn (pf (pn - 1))) i (2 ^ bn))) 0), (), rfl, rfl, bv_hP hT8 hP9⟩, hS.F hT8⟩) hS.2.2 dX4_remainder_6
