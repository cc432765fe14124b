set_option maxHeartbeats 4000000 in
set_option maxRecDepth 100000 in
theorem m_L_below (l : Launch) (G : va_G) (cI : ClassId) (v9 : Int32) (n : Nat) (h0 : 0 < n) (hn9 : n < 2 ^ 31) : Met l yL_below wsL_below ({ frames := 0, cells := 0, slots := 0, locals := 0 }) (bv_P [.int v9, .int (nI n)] G cI (fun H => va_P G vwCl [] H)) (vp_Si (fun r9 : Int32 => ∃ j, j < n ∧ r9 = nI j)) 0 0 (fun _ => False) := by
  refine Met.ofW (cc := cL_below) (maxL := 2) (ret := (some .int)) (by decide) rfl ?_
  intro p e s m args below meth c s₁ B hml hv
  obtain ⟨rfl, hP, hE⟩ := hv
  have hx := B.exec
  have hb := B.bytes
  have hr := B.returns
  have hts := atoms_spec (ws := wsL_below) B.pre
  have hown : s.vm.findClass RL = some m.cls := findClass_of_methodNamed B.named
  have hlocks := B.notSynchronized
  have hK := hE.1
  have hw0 := hts (.constant RL 7 2147483647) (List.mem_of_getElem? (i := 1) rfl)
  have hP : va_P G vwCl [] s.heap := hP
  have hl := lv_entry ([.int v9, .int (nI n)]) (n := 2) (Nat.le_of_ble_eq_true rfl)
  rw [lg_entry_eq]
  generalize (lg_sl ([.int v9, .int (nI n)]) ++ List.replicate (2 - (lg_sl ([.int v9, .int (nI n)])).length) Slot.unset).toArray = ls at hl ⊢
  have hl : lv_has ls 2 [(0, .int v9), (1, .int (nI n))] := hl
  refine lv_iload_n (pc := 0) hx hb dL_below_0 rfl (lv_at hl 0 rfl) ?_
  refine lv_ldc (pc := 1) hx hb hown hw0 dL_below_1 ?_
  refine lv_iand (pc := 3) hx hb dL_below_3 ?_
  refine lv_iload_n (pc := 4) hx hb dL_below_4 rfl (lv_at hl 1 rfl) ?_
  refine lv_irem (pc := 5) (x := (v9 &&& 2147483647)) (y := (nI n)) hx hb dL_below_5 (nI_ne0 h0 hn9) ?_
  exact W.iret (pc := 6) (v := ((v9 &&& 2147483647) - (v9 &&& 2147483647) / (nI n) * (nI n))) hx hb hr (fun T8 hT8 hW8 => ⟨((v9 &&& 2147483647) - (v9 &&& 2147483647) / (nI n) * (nI n)), rfl, (bv_below v9 h0 hn9), hT8⟩) (fun _ h => nomatch h) dL_below_6
set_option maxHeartbeats 4000000 in
set_option maxRecDepth 100000 in
theorem m_L_cell (l : Launch) (G : va_G) (cI : ClassId) (b L : Nat) (xs : Nat → Int32) (k : Nat) (hk9 : k < 2 ^ 20) (hL9 : L < 2 ^ 31) : Met l yL_cell wsL_cell ({ frames := 0, cells := 0, slots := 0, locals := 0 }) (bv_PC [.ref b, .int (nI k)] G cI b L xs) (vp_Si (fun r9 : Int32 => True)) 0 0 (fun _ => False) := by
  refine Met.ofW (cc := cL_cell) (maxL := 2) (ret := (some .int)) (by decide) rfl ?_
  intro p e s m args below meth c s₁ B hml hv
  obtain ⟨rfl, hX9, hbl, hE⟩ := hv
  have hx := B.exec
  have hb := B.bytes
  have hr := B.returns
  have hts := atoms_spec (ws := wsL_cell) B.pre
  have hown : s.vm.findClass RL = some m.cls := findClass_of_methodNamed B.named
  have hlocks := B.notSynchronized
  have hK := hE.1
  have hw0 := hts (.constant RL 8 790386105) (List.mem_of_getElem? (i := 1) rfl)
  have hS : va_S (fun _ : Nat => False) s.heap s.heap [] := va_S.rf
  have hbA : ¬ (fun _ : Nat => False) b := fun h => h
  have hl := lv_entry ([.ref b, .int (nI k)]) (n := 2) (Nat.le_of_ble_eq_true rfl)
  rw [lg_entry_eq]
  generalize (lg_sl ([.ref b, .int (nI k)]) ++ List.replicate (2 - (lg_sl ([.ref b, .int (nI k)])).length) Slot.unset).toArray = ls at hl ⊢
  have hl : lv_has ls 2 [(0, .ref b), (1, .int (nI k))] := hl
  refine lv_iload_n (pc := 0) hx hb dL_cell_0 rfl (lv_at hl 1 rfl) ?_
  refine lv_aload_n (pc := 1) hx hb dL_cell_1 rfl (lv_at hl 0 rfl) ?_
  refine va_slen (pc := 2) hx hb hX9 hbl hbA hS dL_cell_2 ?_
  refine lv_icmp_ge (pc := 3) (tgt := 12) hx hb dL_cell_3 (by decide) (fun c3_1 => ?_) (fun c3_1 => ?_)
  · refine lv_ldc (pc := 12) hx hb hown hw0 dL_cell_12 ?_
    refine lv_iload_n (pc := 14) hx hb dL_cell_14 rfl (lv_at hl 1 rfl) ?_
    refine lv_iconst (pc := 15) (v := 3) hx hb dL_cell_15 (by decide) ?_
    refine lv_iadd (pc := 16) hx hb dL_cell_16 ?_
    refine lv_imul (pc := 17) hx hb dL_cell_17 ?_
    exact W.iret (pc := 18) (v := (790386105 * ((nI k) + 3))) hx hb hr (fun T8 hT8 hW8 => ⟨(790386105 * ((nI k) + 3)), rfl, trivial, hT8⟩) (fun _ h => nomatch h) dL_cell_18
  · have hkl : k < L := by
      by_cases q : k < L
      · exact q
      · exact absurd (nI_le (by omega) (by omega)) c3_1
    refine lv_aload_n (pc := 6) hx hb dL_cell_6 rfl (lv_at hl 0 rfl) ?_
    refine lv_iload_n (pc := 7) hx hb dL_cell_7 rfl (lv_at hl 1 rfl) ?_
    refine va_sld (pc := 8) hx hb hX9 hbl hbA hS (vp_in_nI hkl hL9) dL_cell_8 ?_
    refine lv_goto (pc := 9) (tgt := 18) hx hb dL_cell_9 (by decide) ?_
    exact W.iret (pc := 18) (v := (xs (nI k).toNatClampNeg)) hx hb hr (fun T8 hT8 hW8 => ⟨(xs (nI k).toNatClampNeg), rfl, trivial, hT8⟩) (fun _ h => nomatch h) dL_cell_18
set_option maxHeartbeats 4000000 in
set_option maxRecDepth 100000 in
theorem m_L_build (l : Launch) (G : va_G) (cI : ClassId) (sz : Nat) (x xp ap pn xb as ar am bn xm al ak : Nat) (pf bs br mt lv ks : Nat → Int32) (xx : Int32) (hp : pn ≤ 12) (hn : bn ≤ 10) (hM : ∀ t, t < 2 ^ bn → mt t = bv_wi bs t bn) (hp9 : pn ≤ 9) : Met l yL_build wsL_build ({ frames := 4, cells := 0, slots := 0, locals := 87 }) (bv_PS [.ref x, .int xx] G cI (va_A [(x, .inr (3, [.ref xp, .ref xb, .ref xm])), (xp, .inr (2, [.ref ap, .int (nI pn)])), (ap, .inl (cI, 12, .inl pf)), (xb, .inr (0, [.ref as, .ref ar, .ref am, .int (nI bn)])), (as, .inl (cI, 10, .inl bs)), (ar, .inl (cI, 10, .inl br)), (am, .inl (cI, 1024, .inl mt)), (xm, .inr (1, [.ref al, .ref ak])), (al, .inl (cI, 16, .inl lv)), (ak, .inl (cI, 16, .inl ks))] sz) (fun H => H.size = sz ∧ va_P G vwCl [(x, .inr (3, [.ref xp, .ref xb, .ref xm])), (xp, .inr (2, [.ref ap, .int (nI pn)])), (ap, .inl (cI, 12, .inl pf)), (xb, .inr (0, [.ref as, .ref ar, .ref am, .int (nI bn)])), (as, .inl (cI, 10, .inl bs)), (ar, .inl (cI, 10, .inl br)), (am, .inl (cI, 1024, .inl mt)), (xm, .inr (1, [.ref al, .ref ak])), (al, .inl (cI, 16, .inl lv)), (ak, .inl (cI, 16, .inl ks))] H ∧ va_D (fun _ => True) [(x, .inr (3, [.ref xp, .ref xb, .ref xm])), (xp, .inr (2, [.ref ap, .int (nI pn)])), (ap, .inl (cI, 12, .inl pf)), (xb, .inr (0, [.ref as, .ref ar, .ref am, .int (nI bn)])), (as, .inl (cI, 10, .inl bs)), (ar, .inl (cI, 10, .inl br)), (am, .inl (cI, 1024, .inl mt)), (xm, .inr (1, [.ref al, .ref ak])), (al, .inl (cI, 16, .inl lv)), (ak, .inl (cI, 16, .inl ks))])) (va_Qi (fun (r9 : Int32) (u9 : Int32 × (Nat → Int32)) => r9 = u9.1 ∧ u9.1 &&& 65535 = u9.1 ∧ u9.2 pn = u9.1 ∧ ∀ j, j < pn → u9.2 j = pf j) (fun (u9 : Int32 × (Nat → Int32)) (T9 : State) => va_P G vwCl [(x, .inr (3, [.ref xp, .ref xb, .ref xm])), (xp, .inr (2, [.ref ap, .int (nI (pn + 1))])), (ap, .inl (cI, 12, .inl u9.2)), (xb, .inr (0, [.ref as, .ref ar, .ref am, .int (nI bn)])), (as, .inl (cI, 10, .inl bs)), (ar, .inl (cI, 10, .inl br)), (am, .inl (cI, 1024, .inl mt)), (xm, .inr (1, [.ref al, .ref ak])), (al, .inl (cI, 16, .inl lv)), (ak, .inl (cI, 16, .inl ks))] T9.heap) (va_A [(x, .inr (3, [.ref xp, .ref xb, .ref xm])), (xp, .inr (2, [.ref ap, .int (nI pn)])), (ap, .inl (cI, 12, .inl pf)), (xb, .inr (0, [.ref as, .ref ar, .ref am, .int (nI bn)])), (as, .inl (cI, 10, .inl bs)), (ar, .inl (cI, 10, .inl br)), (am, .inl (cI, 1024, .inl mt)), (xm, .inr (1, [.ref al, .ref ak])), (al, .inl (cI, 16, .inl lv)), (ak, .inl (cI, 16, .inl ks))] sz)) 0 0 (va_A [(x, .inr (3, [.ref xp, .ref xb, .ref xm])), (xp, .inr (2, [.ref ap, .int (nI pn)])), (ap, .inl (cI, 12, .inl pf)), (xb, .inr (0, [.ref as, .ref ar, .ref am, .int (nI bn)])), (as, .inl (cI, 10, .inl bs)), (ar, .inl (cI, 10, .inl br)), (am, .inl (cI, 1024, .inl mt)), (xm, .inr (1, [.ref al, .ref ak])), (al, .inl (cI, 16, .inl lv)), (ak, .inl (cI, 16, .inl ks))] sz) := by
  refine Met.ofW (cc := cL_build) (maxL := 15) (ret := (some .int)) (by decide) rfl ?_
  intro p e s m args below meth c s₁ B hml hv
  obtain ⟨rfl, ⟨hsz, hP, hD0⟩, hE, hXA⟩ := hv
  have hx := B.exec
  have hb := B.bytes
  have hr := B.returns
  have hts := atoms_spec (ws := wsL_build) B.pre
  have hown : s.vm.findClass RL = some m.cls := findClass_of_methodNamed B.named
  have hlocks := B.notSynchronized
  have hK := hE.1
  have hw0 := hts (.static yL_below) (List.mem_of_getElem? (i := 15) rfl)
  have hw1 := hts (.constant RL 25 65535) (List.mem_of_getElem? (i := 1) rfl)
  subst hsz
  have hD := hD0.self (sz := s.heap.size)
  generalize hAe : va_A [(x, .inr (3, [.ref xp, .ref xb, .ref xm])), (xp, .inr (2, [.ref ap, .int (nI pn)])), (ap, .inl (cI, 12, .inl pf)), (xb, .inr (0, [.ref as, .ref ar, .ref am, .int (nI bn)])), (as, .inl (cI, 10, .inl bs)), (ar, .inl (cI, 10, .inl br)), (am, .inl (cI, 1024, .inl mt)), (xm, .inr (1, [.ref al, .ref ak])), (al, .inl (cI, 16, .inl lv)), (ak, .inl (cI, 16, .inl ks))] s.heap.size = A at hD hXA ⊢
  have hA : ∀ q : Nat, s.heap.size ≤ q → A q := fun q h => by rw [← hAe]; exact Or.inr h
  have hS : va_S A s.heap s.heap [] := va_S.rf
  have hP : va_P G vwCl [(x, .inr (3, [.ref xp, .ref xb, .ref xm])), (xp, .inr (2, [.ref ap, .int (nI pn)])), (ap, .inl (cI, 12, .inl pf)), (xb, .inr (0, [.ref as, .ref ar, .ref am, .int (nI bn)])), (as, .inl (cI, 10, .inl bs)), (ar, .inl (cI, 10, .inl br)), (am, .inl (cI, 1024, .inl mt)), (xm, .inr (1, [.ref al, .ref ak])), (al, .inl (cI, 16, .inl lv)), (ak, .inl (cI, 16, .inl ks))] s.heap := hP
  have hl := lv_entry ([.ref x, .int xx]) (n := 15) (Nat.le_of_ble_eq_true rfl)
  rw [lg_entry_eq]
  generalize (lg_sl ([.ref x, .int xx]) ++ List.replicate (15 - (lg_sl ([.ref x, .int xx])).length) Slot.unset).toArray = ls at hl ⊢
  have hl : lv_has ls 15 [(0, .ref x), (1, .int xx)] := hl
  refine lv_aload_n (pc := 0) hx hb dL_build_0 rfl (lv_at hl 0 rfl) ?_
  have hPc := hP.sub (ws' := [(x, .inr (3, [.ref xp, .ref xb, .ref xm])), (xp, .inr (2, [.ref ap, .int (nI pn)])), (ap, .inl (cI, 12, .inl pf)), (xb, .inr (0, [.ref as, .ref ar, .ref am, .int (nI bn)])), (as, .inl (cI, 10, .inl bs)), (ar, .inl (cI, 10, .inl br)), (am, .inl (cI, 1024, .inl mt)), (xm, .inr (1, [.ref al, .ref ak])), (al, .inl (cI, 16, .inl lv)), (ak, .inl (cI, 16, .inl ks))]) [0, 1, 2, 3, 4, 5, 6, 7, 8, 9] rfl
  refine bv_cSi (pc := 1) (E' := (nI pn)) (va_runV (As := []) (rest := []) ⟨hx, hb, hml, hown, hts⟩ (m_X3_height l G cI x xp ap pn xb as ar am bn xm al ak pf bs br mt lv ks (by first | assumption | omega) (by first | assumption | omega) (by first | assumption | omega)) (cwV 0 hts gL_build_X3_height rfl rfl rfl (by decide +kernel) ⟨Nat.le_of_ble_eq_true rfl, Nat.le_of_ble_eq_true rfl⟩) (bv_pV hE hPc (va_recv hK hP (ci := 3) (q0 := 0) rfl rfl)) rfl rfl hl.1 rfl (lv_room (Nat.le_of_ble_eq_true rfl)) dL_build_1 ⟨Nat.le_of_ble_eq_true rfl, Nat.le_of_ble_eq_true rfl⟩) rfl ?_
  refine lv_istore_n (pc := 4) (lv' := [(2, .int (nI pn)), (0, .ref x), (1, .int xx)]) hx hb dL_build_4 rfl hl (by decide) rfl (fun ls hl => ?_)
  refine lv_iconst (pc := 5) (v := (-1)) hx hb dL_build_5 (by decide) ?_
  refine lv_istore_n (pc := 6) (lv' := [(3, .int (-1)), (2, .int (nI pn)), (0, .ref x), (1, .int xx)]) hx hb dL_build_6 rfl hl (by decide) rfl (fun ls hl => ?_)
  refine lv_iconst (pc := 7) (v := 1) hx hb dL_build_7 (by decide) ?_
  refine lv_iload_n (pc := 8) hx hb dL_build_8 rfl (lv_at hl 3 rfl) ?_
  refine lv_iconst (pc := 9) (v := 3) hx hb dL_build_9 (by decide) ?_
  have hPc := hP.sub (ws' := []) [] rfl
  refine vp_callSi (pc := 10) (va_Run.run (va_runS (As := [.int xx, .int 3]) (rest := [.int 1]) ⟨hx, hb, hml, hown, hts⟩ (m_L_below l G cI xx 3 (by decide) (by decide)) (va_cwS 2 hts gL_build_L_below rfl rfl rfl (by decide +kernel) ⟨Nat.le_of_ble_eq_true rfl, Nat.le_of_ble_eq_true rfl⟩) (bv_pS hE hPc) rfl rfl hl.1 rfl (lv_room (Nat.le_of_ble_eq_true rfl)) dL_build_10 ⟨Nat.le_of_ble_eq_true rfl, Nat.le_of_ble_eq_true rfl⟩)) (fun r_3 e_4 => ?_)
  obtain ⟨np0, hnp0, rfl⟩ := e_4
  have hnp0 : np0 < 3 := hnp0
  refine lv_iadd (pc := 13) hx hb dL_build_13 ?_
  rw [show (1 + (nI np0)) = (nI (1 + np0)) from nI_add 1 np0]
  refine lv_istore (pc := 14) (lv' := [(4, .int (nI (1 + np0))), (3, .int (-1)), (2, .int (nI pn)), (0, .ref x), (1, .int xx)]) hx hb dL_build_14 hl (by decide) rfl (fun ls hl => ?_)
  refine lv_iconst (pc := 16) (v := 0) hx hb dL_build_16 (by decide) ?_
  refine lv_istore (pc := 17) (lv' := [(5, .int 0), (4, .int (nI (1 + np0))), (3, .int (-1)), (2, .int (nI pn)), (0, .ref x), (1, .int xx)]) hx hb dL_build_17 hl (by decide) rfl (fun ls hl => ?_)
  have loop_19 : ∀ (fu9 : Nat) (k : Nat) (z : Nat) (md : Int32) (f1 : Nat → Int32), 1 + np0 - k < fu9 → (k ≤ 1 + np0) → ((k = 0 ∧ z = pn) ∨ (1 ≤ k ∧ z = pn + 1 ∧ md &&& 65535 = md ∧ f1 pn = md)) → (∀ j, j < pn → f1 j = pf j) → ∀ (H : Heap) (locs : List Loc), va_P G vwCl [(x, .inr (3, [.ref xp, .ref xb, .ref xm])), (xp, .inr (2, [.ref ap, .int (nI z)])), (ap, .inl (cI, 12, .inl f1)), (xb, .inr (0, [.ref as, .ref ar, .ref am, .int (nI bn)])), (as, .inl (cI, 10, .inl bs)), (ar, .inl (cI, 10, .inl br)), (am, .inl (cI, 1024, .inl mt)), (xm, .inr (1, [.ref al, .ref ak])), (al, .inl (cI, 16, .inl lv)), (ak, .inl (cI, 16, .inl ks))] H → va_D A [(x, .inr (3, [.ref xp, .ref xb, .ref xm])), (xp, .inr (2, [.ref ap, .int (nI z)])), (ap, .inl (cI, 12, .inl f1)), (xb, .inr (0, [.ref as, .ref ar, .ref am, .int (nI bn)])), (as, .inl (cI, 10, .inl bs)), (ar, .inl (cI, 10, .inl br)), (am, .inl (cI, 1024, .inl mt)), (xm, .inr (1, [.ref al, .ref ak])), (al, .inl (cI, 16, .inl lv)), (ak, .inl (cI, 16, .inl ks))] → va_S A s.heap H locs → ∀ (ls : Array Slot), lv_has ls 15 [(5, .int (nI k)), (4, .int (nI (1 + np0))), (3, .int md), (2, .int (nI pn)), (0, .ref x), (1, .int xx)] → W p l e (headSpec wsL_build ({ frames := 4, cells := 0, slots := 0, locals := 87 })).room s m ([.ref x, .int xx] : List Value).toArray below meth c H locs 0 0 (MQ below (va_Qi (fun (r9 : Int32) (u9 : Int32 × (Nat → Int32)) => r9 = u9.1 ∧ u9.1 &&& 65535 = u9.1 ∧ u9.2 pn = u9.1 ∧ ∀ j, j < pn → u9.2 j = pf j) (fun (u9 : Int32 × (Nat → Int32)) (T9 : State) => va_P G vwCl [(x, .inr (3, [.ref xp, .ref xb, .ref xm])), (xp, .inr (2, [.ref ap, .int (nI (pn + 1))])), (ap, .inl (cI, 12, .inl u9.2)), (xb, .inr (0, [.ref as, .ref ar, .ref am, .int (nI bn)])), (as, .inl (cI, 10, .inl bs)), (ar, .inl (cI, 10, .inl br)), (am, .inl (cI, 1024, .inl mt)), (xm, .inr (1, [.ref al, .ref ak])), (al, .inl (cI, 16, .inl lv)), (ak, .inl (cI, 16, .inl ks))] T9.heap) A) ([.ref x, .int xx] : List Value).toArray s 0 0 A) (F0 m 19 ls []) := by
    intro fu9
    induction fu9 with
    | zero => intro k z md f1 hfu; exact absurd hfu (Nat.not_lt_zero _)
    | succ fu9 ih =>
      intro k z md f1 hfu hk hz hpre H locs hP hD hS ls hl
      have hz9 : z ≤ pn + 1 := by
        rcases hz with h | h
        · have := h.2; omega
        · have := h.2.1; omega
      have ih_19 := ih
      refine lv_iload (pc := 19) hx hb dL_build_19 (lv_at hl 0 rfl) ?_
      refine lv_iload (pc := 21) hx hb dL_build_21 (lv_at hl 1 rfl) ?_
      refine lv_icmp_ge (pc := 23) (tgt := 333) hx hb dL_build_23 (by decide) (fun c23_5 => ?_) (fun c23_5 => ?_)
      · have hk1 : 1 ≤ k := by
          by_cases q : k < 1 + np0
          · exact absurd c23_5 (nI_ge q (by omega))
          · omega
        obtain ⟨hz1, hz2, hz3⟩ : pn + 1 = z ∧ md &&& 65535 = md ∧ f1 pn = md := by
          rcases hz with h | h
          · have := h.1; omega
          · exact ⟨h.2.1.symm, h.2.2.1, h.2.2.2⟩
        subst hz1
        refine lv_aload_n (pc := 333) hx hb dL_build_333 rfl (lv_at hl 4 rfl) ?_
        have hPc := hP.sub (ws' := [(x, .inr (3, [.ref xp, .ref xb, .ref xm])), (xp, .inr (2, [.ref ap, .int (nI (pn + 1))])), (ap, .inl (cI, 12, .inl f1)), (xb, .inr (0, [.ref as, .ref ar, .ref am, .int (nI bn)])), (as, .inl (cI, 10, .inl bs)), (ar, .inl (cI, 10, .inl br)), (am, .inl (cI, 1024, .inl mt)), (xm, .inr (1, [.ref al, .ref ak])), (al, .inl (cI, 16, .inl lv)), (ak, .inl (cI, 16, .inl ks))]) [0, 1, 2, 3, 4, 5, 6, 7, 8, 9] rfl
        refine bv_cSi (pc := 334) (E' := md) (va_runV (As := []) (rest := []) ⟨hx, hb, hml, hown, hts⟩ (m_X3_top l G cI x xp ap (pn + 1) xb as ar am bn xm al ak f1 bs br mt lv ks (by omega) hn hM (by omega)) (cwV 0 hts gL_build_X3_top rfl rfl rfl (by decide +kernel) ⟨Nat.le_of_ble_eq_true rfl, Nat.le_of_ble_eq_true rfl⟩) (bv_pV hE hPc (va_recv hK hP (ci := 3) (q0 := 0) rfl rfl)) rfl rfl hl.1 rfl (lv_room (Nat.le_of_ble_eq_true rfl)) dL_build_334 ⟨Nat.le_of_ble_eq_true rfl, Nat.le_of_ble_eq_true rfl⟩) hz3 ?_
        refine lv_iload_n (pc := 337) hx hb dL_build_337 rfl (lv_at hl 2 rfl) ?_
        refine lv_icmp_ne (pc := 338) (tgt := 355) hx hb dL_build_338 (by decide) (fun c338_8 => ?_) (fun c338_8 => ?_)
        · exact absurd rfl c338_8
        · refine lv_aload_n (pc := 341) hx hb dL_build_341 rfl (lv_at hl 4 rfl) ?_
          have hPc := hP.sub (ws' := [(x, .inr (3, [.ref xp, .ref xb, .ref xm])), (xp, .inr (2, [.ref ap, .int (nI (pn + 1))])), (ap, .inl (cI, 12, .inl f1)), (xb, .inr (0, [.ref as, .ref ar, .ref am, .int (nI bn)])), (as, .inl (cI, 10, .inl bs)), (ar, .inl (cI, 10, .inl br)), (am, .inl (cI, 1024, .inl mt)), (xm, .inr (1, [.ref al, .ref ak])), (al, .inl (cI, 16, .inl lv)), (ak, .inl (cI, 16, .inl ks))]) [0, 1, 2, 3, 4, 5, 6, 7, 8, 9] rfl
          refine bv_cSi (pc := 342) (E' := (nI (pn + 1))) (va_runV (As := []) (rest := []) ⟨hx, hb, hml, hown, hts⟩ (m_X3_height l G cI x xp ap (pn + 1) xb as ar am bn xm al ak f1 bs br mt lv ks (by omega) hn hM) (cwV 0 hts gL_build_X3_height rfl rfl rfl (by decide +kernel) ⟨Nat.le_of_ble_eq_true rfl, Nat.le_of_ble_eq_true rfl⟩) (bv_pV hE hPc (va_recv hK hP (ci := 3) (q0 := 0) rfl rfl)) rfl rfl hl.1 rfl (lv_room (Nat.le_of_ble_eq_true rfl)) dL_build_342 ⟨Nat.le_of_ble_eq_true rfl, Nat.le_of_ble_eq_true rfl⟩) rfl ?_
          refine lv_iload_n (pc := 345) hx hb dL_build_345 rfl (lv_at hl 3 rfl) ?_
          refine lv_iconst (pc := 346) (v := 1) hx hb dL_build_346 (by decide) ?_
          refine lv_iadd (pc := 347) hx hb dL_build_347 ?_
          refine lv_icmp_ne (pc := 348) (tgt := 355) hx hb dL_build_348 (by decide) (fun c348_11 => ?_) (fun c348_11 => ?_)
          · exact absurd (nI_1 pn).symm c348_11
          · refine lv_iload_n (pc := 351) hx hb dL_build_351 rfl (lv_at hl 2 rfl) ?_
            refine lv_goto (pc := 352) (tgt := 356) hx hb dL_build_352 (by decide) ?_
            have hP9 : va_P G vwCl [(x, .inr (3, [.ref xp, .ref xb, .ref xm])), (xp, .inr (2, [.ref ap, .int (nI (pn + 1))])), (ap, .inl (cI, 12, .inl f1)), (xb, .inr (0, [.ref as, .ref ar, .ref am, .int (nI bn)])), (as, .inl (cI, 10, .inl bs)), (ar, .inl (cI, 10, .inl br)), (am, .inl (cI, 1024, .inl mt)), (xm, .inr (1, [.ref al, .ref ak])), (al, .inl (cI, 16, .inl lv)), (ak, .inl (cI, 16, .inl ks))] H := hP
            exact W.iret (pc := 356) (v := md) hx hb hr (fun T8 hT8 hW8 => ⟨⟨md, (md, f1), rfl, ⟨rfl, hz2, hz3, hpre⟩, bv_hP hT8 hP9⟩, hS.F hT8⟩) hS.2.2 dL_build_356
      · have hkn : k < 1 + np0 := by
          by_cases q : k < 1 + np0
          · exact q
          · exact absurd (nI_le (by omega) (by omega)) c23_5
        refine lv_iload_n (pc := 26) hx hb dL_build_26 rfl (lv_at hl 5 rfl) ?_
        refine lv_iconst (pc := 27) (v := 2) hx hb dL_build_27 (by decide) ?_
        refine lv_bipush (pc := 28) (v := 6) hx hb dL_build_28 (by decide) ?_
        refine lv_iload (pc := 30) hx hb dL_build_30 (lv_at hl 0 rfl) ?_
        refine lv_imul (pc := 32) hx hb dL_build_32 ?_
        refine lv_iadd (pc := 33) hx hb dL_build_33 ?_
        refine lv_ishr (pc := 34) hx hb dL_build_34 ?_
        obtain ⟨y9, hy9⟩ : ∃ y : Int32, y = (xx >>> ((2 + (6 * (nI k))) &&& 31)) := ⟨_, rfl⟩
        rw [← hy9]
        refine lv_istore (pc := 35) (lv' := [(6, .int y9), (5, .int (nI k)), (4, .int (nI (1 + np0))), (3, .int md), (2, .int (nI pn)), (0, .ref x), (1, .int xx)]) hx hb dL_build_35 hl (by decide) rfl (fun ls hl => ?_)
        refine lv_iload (pc := 37) hx hb dL_build_37 (lv_at hl 0 rfl) ?_
        refine lv_iconst (pc := 39) (v := 4) hx hb dL_build_39 (by decide) ?_
        have hPc := hP.sub (ws' := []) [] rfl
        refine vp_callSi (pc := 40) (va_Run.run (va_runS (As := [.int y9, .int 4]) (rest := []) ⟨hx, hb, hml, hown, hts⟩ (m_L_below l G cI y9 4 (by decide) (by decide)) (va_cwS 2 hts gL_build_L_below rfl rfl rfl (by decide +kernel) ⟨Nat.le_of_ble_eq_true rfl, Nat.le_of_ble_eq_true rfl⟩) (bv_pS hE hPc) rfl rfl hl.1 rfl (lv_room (Nat.le_of_ble_eq_true rfl)) dL_build_40 ⟨Nat.le_of_ble_eq_true rfl, Nat.le_of_ble_eq_true rfl⟩)) (fun r_12 e_13 => ?_)
        obtain ⟨a9, ha9, rfl⟩ := e_13
        have ha9 : a9 < 4 := ha9
        refine lv_istore (pc := 43) (lv' := [(7, .int (nI a9)), (6, .int y9), (5, .int (nI k)), (4, .int (nI (1 + np0))), (3, .int md), (2, .int (nI pn)), (0, .ref x), (1, .int xx)]) hx hb dL_build_43 hl (by decide) rfl (fun ls hl => ?_)
        refine lv_iconst (pc := 45) (v := 0) hx hb dL_build_45 (by decide) ?_
        refine lv_istore (pc := 46) (lv' := [(8, .int 0), (7, .int (nI a9)), (6, .int y9), (5, .int (nI k)), (4, .int (nI (1 + np0))), (3, .int md), (2, .int (nI pn)), (0, .ref x), (1, .int xx)]) hx hb dL_build_46 hl (by decide) rfl (fun ls hl => ?_)
        refine lv_iconst (pc := 48) (v := 0) hx hb dL_build_48 (by decide) ?_
        refine lv_istore (pc := 49) (lv' := [(9, .int 0), (8, .int 0), (7, .int (nI a9)), (6, .int y9), (5, .int (nI k)), (4, .int (nI (1 + np0))), (3, .int md), (2, .int (nI pn)), (0, .ref x), (1, .int xx)]) hx hb dL_build_49 hl (by decide) rfl (fun ls hl => ?_)
        have loop_51 : ∀ (fu9 : Nat) (wv : Nat) (wo : Int32), 16 - wv < fu9 → (wv ≤ 16) → (wo = bv_awl a9 wv) → ∀ (H : Heap) (locs : List Loc), va_P G vwCl [(x, .inr (3, [.ref xp, .ref xb, .ref xm])), (xp, .inr (2, [.ref ap, .int (nI z)])), (ap, .inl (cI, 12, .inl f1)), (xb, .inr (0, [.ref as, .ref ar, .ref am, .int (nI bn)])), (as, .inl (cI, 10, .inl bs)), (ar, .inl (cI, 10, .inl br)), (am, .inl (cI, 1024, .inl mt)), (xm, .inr (1, [.ref al, .ref ak])), (al, .inl (cI, 16, .inl lv)), (ak, .inl (cI, 16, .inl ks))] H → va_D A [(x, .inr (3, [.ref xp, .ref xb, .ref xm])), (xp, .inr (2, [.ref ap, .int (nI z)])), (ap, .inl (cI, 12, .inl f1)), (xb, .inr (0, [.ref as, .ref ar, .ref am, .int (nI bn)])), (as, .inl (cI, 10, .inl bs)), (ar, .inl (cI, 10, .inl br)), (am, .inl (cI, 1024, .inl mt)), (xm, .inr (1, [.ref al, .ref ak])), (al, .inl (cI, 16, .inl lv)), (ak, .inl (cI, 16, .inl ks))] → va_S A s.heap H locs → ∀ (ls : Array Slot), lv_has ls 15 [(9, .int (nI wv)), (8, .int wo), (7, .int (nI a9)), (6, .int y9), (5, .int (nI k)), (4, .int (nI (1 + np0))), (3, .int md), (2, .int (nI pn)), (0, .ref x), (1, .int xx)] → W p l e (headSpec wsL_build ({ frames := 4, cells := 0, slots := 0, locals := 87 })).room s m ([.ref x, .int xx] : List Value).toArray below meth c H locs 0 0 (MQ below (va_Qi (fun (r9 : Int32) (u9 : Int32 × (Nat → Int32)) => r9 = u9.1 ∧ u9.1 &&& 65535 = u9.1 ∧ u9.2 pn = u9.1 ∧ ∀ j, j < pn → u9.2 j = pf j) (fun (u9 : Int32 × (Nat → Int32)) (T9 : State) => va_P G vwCl [(x, .inr (3, [.ref xp, .ref xb, .ref xm])), (xp, .inr (2, [.ref ap, .int (nI (pn + 1))])), (ap, .inl (cI, 12, .inl u9.2)), (xb, .inr (0, [.ref as, .ref ar, .ref am, .int (nI bn)])), (as, .inl (cI, 10, .inl bs)), (ar, .inl (cI, 10, .inl br)), (am, .inl (cI, 1024, .inl mt)), (xm, .inr (1, [.ref al, .ref ak])), (al, .inl (cI, 16, .inl lv)), (ak, .inl (cI, 16, .inl ks))] T9.heap) A) ([.ref x, .int xx] : List Value).toArray s 0 0 A) (F0 m 51 ls []) := by
          intro fu9
          induction fu9 with
          | zero => intro wv wo hfu; exact absurd hfu (Nat.not_lt_zero _)
          | succ fu9 ih =>
            intro wv wo hfu hw hwo H locs hP hD hS ls hl
            refine lv_iload (pc := 51) hx hb dL_build_51 (lv_at hl 0 rfl) ?_
            refine lv_bipush (pc := 53) (v := 16) hx hb dL_build_53 (by decide) ?_
            refine lv_icmp_ge (pc := 55) (tgt := 79) hx hb dL_build_55 (by decide) (fun c55_14 => ?_) (fun c55_14 => ?_)
            · have hw6 : 16 = wv := by
                by_cases h : wv < 16
                · exact absurd c55_14 (nI_ge h (by decide))
                · omega
              subst hw6
              rw [bv_awl16 a9 ha9] at hwo
              subst hwo
              refine lv_aload_n (pc := 79) hx hb dL_build_79 rfl (lv_at hl 8 rfl) ?_
              refine lv_iload (pc := 80) hx hb dL_build_80 (lv_at hl 2 rfl) ?_
              have hPc := hP.sub (ws' := [(x, .inr (3, [.ref xp, .ref xb, .ref xm])), (xp, .inr (2, [.ref ap, .int (nI z)])), (ap, .inl (cI, 12, .inl f1)), (xb, .inr (0, [.ref as, .ref ar, .ref am, .int (nI bn)])), (as, .inl (cI, 10, .inl bs)), (ar, .inl (cI, 10, .inl br)), (am, .inl (cI, 1024, .inl mt)), (xm, .inr (1, [.ref al, .ref ak])), (al, .inl (cI, 16, .inl lv)), (ak, .inl (cI, 16, .inl ks))]) [0, 1, 2, 3, 4, 5, 6, 7, 8, 9] rfl
              have hDc := hD.sub (ws' := [(x, .inr (3, [.ref xp, .ref xb, .ref xm])), (xp, .inr (2, [.ref ap, .int (nI z)])), (ap, .inl (cI, 12, .inl f1)), (xb, .inr (0, [.ref as, .ref ar, .ref am, .int (nI bn)])), (as, .inl (cI, 10, .inl bs)), (ar, .inl (cI, 10, .inl br)), (am, .inl (cI, 1024, .inl mt)), (xm, .inr (1, [.ref al, .ref ak])), (al, .inl (cI, 16, .inl lv)), (ak, .inl (cI, 16, .inl ks))]) [0, 1, 2, 3, 4, 5, 6, 7, 8, 9] (by decide) rfl
              have hFc := va_free (wc := [(x, .inr (3, [.ref xp, .ref xb, .ref xm])), (xp, .inr (2, [.ref ap, .int (nI z)])), (ap, .inl (cI, 12, .inl f1)), (xb, .inr (0, [.ref as, .ref ar, .ref am, .int (nI bn)])), (as, .inl (cI, 10, .inl bs)), (ar, .inl (cI, 10, .inl br)), (am, .inl (cI, 1024, .inl mt)), (xm, .inr (1, [.ref al, .ref ak])), (al, .inl (cI, 16, .inl lv)), (ak, .inl (cI, 16, .inl ks))]) hD hS hA [0, 1, 2, 3, 4, 5, 6, 7, 8, 9] rfl
              refine bv_cMi (pc := 82) (E' := (nI (z + 1))) (va_runV (As := [.int (nI a9)]) (rest := []) ⟨hx, hb, hml, hown, hts⟩ (m_X3_atom l G cI H.size x xp ap z xb as ar am bn xm al ak f1 bs br mt lv ks a9 (by omega) hn hM ha9 (by omega)) (cwV 1 hts gL_build_X3_atom rfl rfl rfl (by decide +kernel) ⟨Nat.le_of_ble_eq_true rfl, Nat.le_of_ble_eq_true rfl⟩) (bv_pVS hE ((hXA.kept hS.2.1).narrow (fun q h => hFc q h)) ⟨rfl, hPc, hDc.weaken (fun _ _ _ _ => trivial)⟩ (va_recv hK hP (ci := 3) (q0 := 0) rfl rfl)) rfl rfl hl.1 rfl (lv_room (Nat.le_of_ble_eq_true rfl)) dL_build_82 ⟨Nat.le_of_ble_eq_true rfl, Nat.le_of_ble_eq_true rfl⟩) hS (fun q _ h => hFc q h) hFc rfl (fun t8 H1 locs ht8 hvm8 hB8 hz1 hk1 hS => ?_)
              have hP1 : va_P G vwCl [(x, .inr (3, [.ref xp, .ref xb, .ref xm])), (xp, .inr (2, [.ref ap, .int (nI (z + 1))])), (ap, .inl (cI, 12, .inl (upd f1 z (bv_AW a9)))), (xb, .inr (0, [.ref as, .ref ar, .ref am, .int (nI bn)])), (as, .inl (cI, 10, .inl bs)), (ar, .inl (cI, 10, .inl br)), (am, .inl (cI, 1024, .inl mt)), (xm, .inr (1, [.ref al, .ref ak])), (al, .inl (cI, 16, .inl lv)), (ak, .inl (cI, 16, .inl ks))] H1 := by rw [← ht8]; exact hB8
              obtain ⟨hP, hD⟩ := va_join (wr := []) (w1 := [(x, .inr (3, [.ref xp, .ref xb, .ref xm])), (xp, .inr (2, [.ref ap, .int (nI (z + 1))])), (ap, .inl (cI, 12, .inl (upd f1 z (bv_AW a9)))), (xb, .inr (0, [.ref as, .ref ar, .ref am, .int (nI bn)])), (as, .inl (cI, 10, .inl bs)), (ar, .inl (cI, 10, .inl br)), (am, .inl (cI, 1024, .inl mt)), (xm, .inr (1, [.ref al, .ref ak])), (al, .inl (cI, 16, .inl lv)), (ak, .inl (cI, 16, .inl ks))]) hP hD [0, 1, 2, 3, 4, 5, 6, 7, 8, 9] [] rfl rfl (by decide) (by decide) hk1 hFc hP1 (bv_Dm (w0 := [(x, .inr (3, [.ref xp, .ref xb, .ref xm])), (xp, .inr (2, [.ref ap, .int (nI z)])), (ap, .inl (cI, 12, .inl f1)), (xb, .inr (0, [.ref as, .ref ar, .ref am, .int (nI bn)])), (as, .inl (cI, 10, .inl bs)), (ar, .inl (cI, 10, .inl br)), (am, .inl (cI, 1024, .inl mt)), (xm, .inr (1, [.ref al, .ref ak])), (al, .inl (cI, 16, .inl lv)), (ak, .inl (cI, 16, .inl ks))]) [x, xp, ap, xb, as, ar, am, xm, al, ak] rfl rfl hDc.self)
              have hP : va_P G vwCl [(x, .inr (3, [.ref xp, .ref xb, .ref xm])), (xp, .inr (2, [.ref ap, .int (nI (z + 1))])), (ap, .inl (cI, 12, .inl (upd f1 z (bv_AW a9)))), (xb, .inr (0, [.ref as, .ref ar, .ref am, .int (nI bn)])), (as, .inl (cI, 10, .inl bs)), (ar, .inl (cI, 10, .inl br)), (am, .inl (cI, 1024, .inl mt)), (xm, .inr (1, [.ref al, .ref ak])), (al, .inl (cI, 16, .inl lv)), (ak, .inl (cI, 16, .inl ks))] H1 := hP.sub (ws' := [(x, .inr (3, [.ref xp, .ref xb, .ref xm])), (xp, .inr (2, [.ref ap, .int (nI (z + 1))])), (ap, .inl (cI, 12, .inl (upd f1 z (bv_AW a9)))), (xb, .inr (0, [.ref as, .ref ar, .ref am, .int (nI bn)])), (as, .inl (cI, 10, .inl bs)), (ar, .inl (cI, 10, .inl br)), (am, .inl (cI, 1024, .inl mt)), (xm, .inr (1, [.ref al, .ref ak])), (al, .inl (cI, 16, .inl lv)), (ak, .inl (cI, 16, .inl ks))]) [0, 1, 2, 3, 4, 5, 6, 7, 8, 9] rfl
              have hD : va_D A [(x, .inr (3, [.ref xp, .ref xb, .ref xm])), (xp, .inr (2, [.ref ap, .int (nI (z + 1))])), (ap, .inl (cI, 12, .inl (upd f1 z (bv_AW a9)))), (xb, .inr (0, [.ref as, .ref ar, .ref am, .int (nI bn)])), (as, .inl (cI, 10, .inl bs)), (ar, .inl (cI, 10, .inl br)), (am, .inl (cI, 1024, .inl mt)), (xm, .inr (1, [.ref al, .ref ak])), (al, .inl (cI, 16, .inl lv)), (ak, .inl (cI, 16, .inl ks))] := hD.sub (ws' := [(x, .inr (3, [.ref xp, .ref xb, .ref xm])), (xp, .inr (2, [.ref ap, .int (nI (z + 1))])), (ap, .inl (cI, 12, .inl (upd f1 z (bv_AW a9)))), (xb, .inr (0, [.ref as, .ref ar, .ref am, .int (nI bn)])), (as, .inl (cI, 10, .inl bs)), (ar, .inl (cI, 10, .inl br)), (am, .inl (cI, 1024, .inl mt)), (xm, .inr (1, [.ref al, .ref ak])), (al, .inl (cI, 16, .inl lv)), (ak, .inl (cI, 16, .inl ks))]) [0, 1, 2, 3, 4, 5, 6, 7, 8, 9] (by decide) rfl
              generalize H1 = H at hP hS ⊢
              refine lv_iload_n (pc := 85) hx hb dL_build_85 rfl (lv_at hl 7 rfl) ?_
              refine lv_iconst (pc := 86) (v := 1) hx hb dL_build_86 (by decide) ?_
              refine lv_iadd (pc := 87) hx hb dL_build_87 ?_
              refine lv_iload (pc := 88) hx hb dL_build_88 (lv_at hl 4 rfl) ?_
              refine lv_if_ne (pc := 90) (tgt := 97) hx hb dL_build_90 (by decide) (fun c90_17 => ?_) (fun c90_17 => ?_)
              · have hk0 : ¬ k = 0 := fun q => c90_17 (by rw [q]; rfl)
                obtain ⟨hz1, hz2, hz3⟩ : pn + 1 = z ∧ md &&& 65535 = md ∧ f1 pn = md := by
                  rcases hz with h | h
                  · exact absurd h.1 hk0
                  · exact ⟨h.2.1.symm, h.2.2.1, h.2.2.2⟩
                subst hz1
                refine lv_iconst (pc := 97) (v := 1) hx hb dL_build_97 (by decide) ?_
                refine lv_iadd (pc := 98) hx hb dL_build_98 ?_
                refine lv_icmp_eq (pc := 99) (tgt := 104) hx hb dL_build_99 (by decide) (fun c99_18 => ?_) (fun c99_18 => ?_)
                · refine lv_iload (pc := 104) hx hb dL_build_104 (lv_at hl 3 rfl) ?_
                  refine lv_iconst (pc := 106) (v := 2) hx hb dL_build_106 (by decide) ?_
                  refine lv_ishr (pc := 107) hx hb dL_build_107 ?_
                  refine lv_iconst (pc := 108) (v := 2) hx hb dL_build_108 (by decide) ?_
                  have hPc := hP.sub (ws' := []) [] rfl
                  refine vp_callSi (pc := 109) (va_Run.run (va_runS (As := [.int (y9 >>> (2 &&& 31)), .int 2]) (rest := []) ⟨hx, hb, hml, hown, hts⟩ (m_L_below l G cI (y9 >>> (2 &&& 31)) 2 (by decide) (by decide)) (va_cwS 2 hts gL_build_L_below rfl rfl rfl (by decide +kernel) ⟨Nat.le_of_ble_eq_true rfl, Nat.le_of_ble_eq_true rfl⟩) (bv_pS hE hPc) rfl rfl hl.1 rfl (lv_room (Nat.le_of_ble_eq_true rfl)) dL_build_109 ⟨Nat.le_of_ble_eq_true rfl, Nat.le_of_ble_eq_true rfl⟩)) (fun r_19 e_20 => ?_)
                  obtain ⟨b9, hb9, rfl⟩ := e_20
                  have hb9 : b9 < 2 := hb9
                  refine lv_if_ne (pc := 112) (tgt := 133) hx hb dL_build_112 (by decide) (fun c112_21 => ?_) (fun c112_21 => ?_)
                  · refine lv_iload (pc := 133) hx hb dL_build_133 (lv_at hl 4 rfl) ?_
                    refine lv_if_ne (pc := 135) (tgt := 144) hx hb dL_build_135 (by decide) (fun c135_22 => ?_) (fun c135_22 => ?_)
                    · refine lv_iload (pc := 144) hx hb dL_build_144 (lv_at hl 3 rfl) ?_
                      refine lv_iconst (pc := 146) (v := 3) hx hb dL_build_146 (by decide) ?_
                      refine lv_ishr (pc := 147) hx hb dL_build_147 ?_
                      refine lv_iconst (pc := 148) (v := 4) hx hb dL_build_148 (by decide) ?_
                      have hPc := hP.sub (ws' := []) [] rfl
                      refine vp_callSi (pc := 149) (va_Run.run (va_runS (As := [.int (y9 >>> (3 &&& 31)), .int 4]) (rest := []) ⟨hx, hb, hml, hown, hts⟩ (m_L_below l G cI (y9 >>> (3 &&& 31)) 4 (by decide) (by decide)) (va_cwS 2 hts gL_build_L_below rfl rfl rfl (by decide +kernel) ⟨Nat.le_of_ble_eq_true rfl, Nat.le_of_ble_eq_true rfl⟩) (bv_pS hE hPc) rfl rfl hl.1 rfl (lv_room (Nat.le_of_ble_eq_true rfl)) dL_build_149 ⟨Nat.le_of_ble_eq_true rfl, Nat.le_of_ble_eq_true rfl⟩)) (fun r_23 e_24 => ?_)
                      obtain ⟨kd, hkd, rfl⟩ := e_24
                      have hkd : kd < 4 := hkd
                      refine lv_istore (pc := 152) (lv' := [(9, .int (nI kd)), (8, .int (bv_AW a9)), (7, .int (nI a9)), (6, .int y9), (5, .int (nI k)), (4, .int (nI (1 + np0))), (3, .int md), (2, .int (nI pn)), (0, .ref x), (1, .int xx)]) hx hb dL_build_152 hl (by decide) rfl (fun ls hl => ?_)
                      refine lv_iconst (pc := 154) (v := 0) hx hb dL_build_154 (by decide) ?_
                      refine lv_istore (pc := 155) (lv' := [(10, .int 0), (9, .int (nI kd)), (8, .int (bv_AW a9)), (7, .int (nI a9)), (6, .int y9), (5, .int (nI k)), (4, .int (nI (1 + np0))), (3, .int md), (2, .int (nI pn)), (0, .ref x), (1, .int xx)]) hx hb dL_build_155 hl (by decide) rfl (fun ls hl => ?_)
                      refine lv_iconst (pc := 157) (v := 0) hx hb dL_build_157 (by decide) ?_
                      refine lv_istore (pc := 158) (lv' := [(11, .int 0), (10, .int 0), (9, .int (nI kd)), (8, .int (bv_AW a9)), (7, .int (nI a9)), (6, .int y9), (5, .int (nI k)), (4, .int (nI (1 + np0))), (3, .int md), (2, .int (nI pn)), (0, .ref x), (1, .int xx)]) hx hb dL_build_158 hl (by decide) rfl (fun ls hl => ?_)
                      have loop_160 : ∀ (fu9 : Nat) (wv : Nat) (bo : Int32), 16 - wv < fu9 → (wv ≤ 16) → (bo = bv_bo kd md (bv_AW a9) wv) → ∀ (H : Heap) (locs : List Loc), va_P G vwCl [(x, .inr (3, [.ref xp, .ref xb, .ref xm])), (xp, .inr (2, [.ref ap, .int (nI ((pn + 1) + 1))])), (ap, .inl (cI, 12, .inl (upd f1 (pn + 1) (bv_AW a9)))), (xb, .inr (0, [.ref as, .ref ar, .ref am, .int (nI bn)])), (as, .inl (cI, 10, .inl bs)), (ar, .inl (cI, 10, .inl br)), (am, .inl (cI, 1024, .inl mt)), (xm, .inr (1, [.ref al, .ref ak])), (al, .inl (cI, 16, .inl lv)), (ak, .inl (cI, 16, .inl ks))] H → va_D A [(x, .inr (3, [.ref xp, .ref xb, .ref xm])), (xp, .inr (2, [.ref ap, .int (nI ((pn + 1) + 1))])), (ap, .inl (cI, 12, .inl (upd f1 (pn + 1) (bv_AW a9)))), (xb, .inr (0, [.ref as, .ref ar, .ref am, .int (nI bn)])), (as, .inl (cI, 10, .inl bs)), (ar, .inl (cI, 10, .inl br)), (am, .inl (cI, 1024, .inl mt)), (xm, .inr (1, [.ref al, .ref ak])), (al, .inl (cI, 16, .inl lv)), (ak, .inl (cI, 16, .inl ks))] → va_S A s.heap H locs → ∀ (ls : Array Slot), lv_has ls 15 [(11, .int (nI wv)), (10, .int bo), (9, .int (nI kd)), (8, .int (bv_AW a9)), (7, .int (nI a9)), (6, .int y9), (5, .int (nI k)), (4, .int (nI (1 + np0))), (3, .int md), (2, .int (nI pn)), (0, .ref x), (1, .int xx)] → W p l e (headSpec wsL_build ({ frames := 4, cells := 0, slots := 0, locals := 87 })).room s m ([.ref x, .int xx] : List Value).toArray below meth c H locs 0 0 (MQ below (va_Qi (fun (r9 : Int32) (u9 : Int32 × (Nat → Int32)) => r9 = u9.1 ∧ u9.1 &&& 65535 = u9.1 ∧ u9.2 pn = u9.1 ∧ ∀ j, j < pn → u9.2 j = pf j) (fun (u9 : Int32 × (Nat → Int32)) (T9 : State) => va_P G vwCl [(x, .inr (3, [.ref xp, .ref xb, .ref xm])), (xp, .inr (2, [.ref ap, .int (nI (pn + 1))])), (ap, .inl (cI, 12, .inl u9.2)), (xb, .inr (0, [.ref as, .ref ar, .ref am, .int (nI bn)])), (as, .inl (cI, 10, .inl bs)), (ar, .inl (cI, 10, .inl br)), (am, .inl (cI, 1024, .inl mt)), (xm, .inr (1, [.ref al, .ref ak])), (al, .inl (cI, 16, .inl lv)), (ak, .inl (cI, 16, .inl ks))] T9.heap) A) ([.ref x, .int xx] : List Value).toArray s 0 0 A) (F0 m 160 ls []) := by
                        intro fu9
                        induction fu9 with
                        | zero => intro wv bo hfu; exact absurd hfu (Nat.not_lt_zero _)
                        | succ fu9 ih =>
                          intro wv bo hfu hw hbo H locs hP hD hS ls hl
                          refine lv_iload (pc := 160) hx hb dL_build_160 (lv_at hl 0 rfl) ?_
                          refine lv_bipush (pc := 162) (v := 16) hx hb dL_build_162 (by decide) ?_
                          refine lv_icmp_ge (pc := 164) (tgt := 311) hx hb dL_build_164 (by decide) (fun c164_25 => ?_) (fun c164_25 => ?_)
                          · have hw6 : 16 = wv := by
                              by_cases h : wv < 16
                              · exact absurd c164_25 (nI_ge h (by decide))
                              · omega
                            subst hw6
                            rw [bv_bo_join hkd hz2 (by first | exact bv_AW16 a9 ha9 | exact bv_not16 _)] at hbo
                            subst hbo
                            refine lv_aload_n (pc := 311) hx hb dL_build_311 rfl (lv_at hl 10 rfl) ?_
                            refine lv_iload (pc := 312) hx hb dL_build_312 (lv_at hl 2 rfl) ?_
                            have hPc := hP.sub (ws' := [(x, .inr (3, [.ref xp, .ref xb, .ref xm])), (xp, .inr (2, [.ref ap, .int (nI ((pn + 1) + 1))])), (ap, .inl (cI, 12, .inl (upd f1 (pn + 1) (bv_AW a9)))), (xb, .inr (0, [.ref as, .ref ar, .ref am, .int (nI bn)])), (as, .inl (cI, 10, .inl bs)), (ar, .inl (cI, 10, .inl br)), (am, .inl (cI, 1024, .inl mt)), (xm, .inr (1, [.ref al, .ref ak])), (al, .inl (cI, 16, .inl lv)), (ak, .inl (cI, 16, .inl ks))]) [0, 1, 2, 3, 4, 5, 6, 7, 8, 9] rfl
                            have hDc := hD.sub (ws' := [(x, .inr (3, [.ref xp, .ref xb, .ref xm])), (xp, .inr (2, [.ref ap, .int (nI ((pn + 1) + 1))])), (ap, .inl (cI, 12, .inl (upd f1 (pn + 1) (bv_AW a9)))), (xb, .inr (0, [.ref as, .ref ar, .ref am, .int (nI bn)])), (as, .inl (cI, 10, .inl bs)), (ar, .inl (cI, 10, .inl br)), (am, .inl (cI, 1024, .inl mt)), (xm, .inr (1, [.ref al, .ref ak])), (al, .inl (cI, 16, .inl lv)), (ak, .inl (cI, 16, .inl ks))]) [0, 1, 2, 3, 4, 5, 6, 7, 8, 9] (by decide) rfl
                            have hFc := va_free (wc := [(x, .inr (3, [.ref xp, .ref xb, .ref xm])), (xp, .inr (2, [.ref ap, .int (nI ((pn + 1) + 1))])), (ap, .inl (cI, 12, .inl (upd f1 (pn + 1) (bv_AW a9)))), (xb, .inr (0, [.ref as, .ref ar, .ref am, .int (nI bn)])), (as, .inl (cI, 10, .inl bs)), (ar, .inl (cI, 10, .inl br)), (am, .inl (cI, 1024, .inl mt)), (xm, .inr (1, [.ref al, .ref ak])), (al, .inl (cI, 16, .inl lv)), (ak, .inl (cI, 16, .inl ks))]) hD hS hA [0, 1, 2, 3, 4, 5, 6, 7, 8, 9] rfl
                            refine bv_cMi (pc := 314) (E' := (bv_join (nI kd) md (bv_AW a9))) (va_runV (As := [.int (nI kd)]) (rest := []) ⟨hx, hb, hml, hown, hts⟩ (m_X3_join l G cI H.size x xp ap ((pn + 1) + 1) xb as ar am bn xm al ak (upd f1 (pn + 1) (bv_AW a9)) bs br mt lv ks (nI kd) (by omega) hn hM (bv_kd3 hkd) (by omega)) (cwV 1 hts gL_build_X3_join rfl rfl rfl (by decide +kernel) ⟨Nat.le_of_ble_eq_true rfl, Nat.le_of_ble_eq_true rfl⟩) (bv_pV hE ⟨rfl, hPc, hDc.weaken (fun _ _ _ _ => trivial)⟩ (va_recv hK hP (ci := 3) (q0 := 0) rfl rfl)) rfl rfl hl.1 rfl (lv_room (Nat.le_of_ble_eq_true rfl)) dL_build_314 ⟨Nat.le_of_ble_eq_true rfl, Nat.le_of_ble_eq_true rfl⟩) hS (fun q _ h => hFc q h) hFc (by rw [bv_updS, bv_updP, hz3]) (fun t8 H1 locs ht8 hvm8 hB8 hz1 hk1 hS => ?_)
                            have hP1 : va_P G vwCl [(x, .inr (3, [.ref xp, .ref xb, .ref xm])), (xp, .inr (2, [.ref ap, .int (nI (((pn + 1) + 1) - 1))])), (ap, .inl (cI, 12, .inl (upd (upd f1 (pn + 1) (bv_AW a9)) (((pn + 1) + 1) - 2) (bv_join (nI kd) ((upd f1 (pn + 1) (bv_AW a9)) (((pn + 1) + 1) - 2)) ((upd f1 (pn + 1) (bv_AW a9)) (((pn + 1) + 1) - 1)))))), (xb, .inr (0, [.ref as, .ref ar, .ref am, .int (nI bn)])), (as, .inl (cI, 10, .inl bs)), (ar, .inl (cI, 10, .inl br)), (am, .inl (cI, 1024, .inl mt)), (xm, .inr (1, [.ref al, .ref ak])), (al, .inl (cI, 16, .inl lv)), (ak, .inl (cI, 16, .inl ks))] H1 := by rw [← ht8]; exact hB8
                            obtain ⟨hP, hD⟩ := va_join (wr := []) (w1 := [(x, .inr (3, [.ref xp, .ref xb, .ref xm])), (xp, .inr (2, [.ref ap, .int (nI (((pn + 1) + 1) - 1))])), (ap, .inl (cI, 12, .inl (upd (upd f1 (pn + 1) (bv_AW a9)) (((pn + 1) + 1) - 2) (bv_join (nI kd) ((upd f1 (pn + 1) (bv_AW a9)) (((pn + 1) + 1) - 2)) ((upd f1 (pn + 1) (bv_AW a9)) (((pn + 1) + 1) - 1)))))), (xb, .inr (0, [.ref as, .ref ar, .ref am, .int (nI bn)])), (as, .inl (cI, 10, .inl bs)), (ar, .inl (cI, 10, .inl br)), (am, .inl (cI, 1024, .inl mt)), (xm, .inr (1, [.ref al, .ref ak])), (al, .inl (cI, 16, .inl lv)), (ak, .inl (cI, 16, .inl ks))]) hP hD [0, 1, 2, 3, 4, 5, 6, 7, 8, 9] [] rfl rfl (by decide) (by decide) hk1 hFc hP1 (bv_Dm (w0 := [(x, .inr (3, [.ref xp, .ref xb, .ref xm])), (xp, .inr (2, [.ref ap, .int (nI ((pn + 1) + 1))])), (ap, .inl (cI, 12, .inl (upd f1 (pn + 1) (bv_AW a9)))), (xb, .inr (0, [.ref as, .ref ar, .ref am, .int (nI bn)])), (as, .inl (cI, 10, .inl bs)), (ar, .inl (cI, 10, .inl br)), (am, .inl (cI, 1024, .inl mt)), (xm, .inr (1, [.ref al, .ref ak])), (al, .inl (cI, 16, .inl lv)), (ak, .inl (cI, 16, .inl ks))]) [x, xp, ap, xb, as, ar, am, xm, al, ak] rfl rfl hDc.self)
                            have hP : va_P G vwCl [(x, .inr (3, [.ref xp, .ref xb, .ref xm])), (xp, .inr (2, [.ref ap, .int (nI (((pn + 1) + 1) - 1))])), (ap, .inl (cI, 12, .inl (upd (upd f1 (pn + 1) (bv_AW a9)) (((pn + 1) + 1) - 2) (bv_join (nI kd) ((upd f1 (pn + 1) (bv_AW a9)) (((pn + 1) + 1) - 2)) ((upd f1 (pn + 1) (bv_AW a9)) (((pn + 1) + 1) - 1)))))), (xb, .inr (0, [.ref as, .ref ar, .ref am, .int (nI bn)])), (as, .inl (cI, 10, .inl bs)), (ar, .inl (cI, 10, .inl br)), (am, .inl (cI, 1024, .inl mt)), (xm, .inr (1, [.ref al, .ref ak])), (al, .inl (cI, 16, .inl lv)), (ak, .inl (cI, 16, .inl ks))] H1 := hP.sub (ws' := [(x, .inr (3, [.ref xp, .ref xb, .ref xm])), (xp, .inr (2, [.ref ap, .int (nI (((pn + 1) + 1) - 1))])), (ap, .inl (cI, 12, .inl (upd (upd f1 (pn + 1) (bv_AW a9)) (((pn + 1) + 1) - 2) (bv_join (nI kd) ((upd f1 (pn + 1) (bv_AW a9)) (((pn + 1) + 1) - 2)) ((upd f1 (pn + 1) (bv_AW a9)) (((pn + 1) + 1) - 1)))))), (xb, .inr (0, [.ref as, .ref ar, .ref am, .int (nI bn)])), (as, .inl (cI, 10, .inl bs)), (ar, .inl (cI, 10, .inl br)), (am, .inl (cI, 1024, .inl mt)), (xm, .inr (1, [.ref al, .ref ak])), (al, .inl (cI, 16, .inl lv)), (ak, .inl (cI, 16, .inl ks))]) [0, 1, 2, 3, 4, 5, 6, 7, 8, 9] rfl
                            have hD : va_D A [(x, .inr (3, [.ref xp, .ref xb, .ref xm])), (xp, .inr (2, [.ref ap, .int (nI (((pn + 1) + 1) - 1))])), (ap, .inl (cI, 12, .inl (upd (upd f1 (pn + 1) (bv_AW a9)) (((pn + 1) + 1) - 2) (bv_join (nI kd) ((upd f1 (pn + 1) (bv_AW a9)) (((pn + 1) + 1) - 2)) ((upd f1 (pn + 1) (bv_AW a9)) (((pn + 1) + 1) - 1)))))), (xb, .inr (0, [.ref as, .ref ar, .ref am, .int (nI bn)])), (as, .inl (cI, 10, .inl bs)), (ar, .inl (cI, 10, .inl br)), (am, .inl (cI, 1024, .inl mt)), (xm, .inr (1, [.ref al, .ref ak])), (al, .inl (cI, 16, .inl lv)), (ak, .inl (cI, 16, .inl ks))] := hD.sub (ws' := [(x, .inr (3, [.ref xp, .ref xb, .ref xm])), (xp, .inr (2, [.ref ap, .int (nI (((pn + 1) + 1) - 1))])), (ap, .inl (cI, 12, .inl (upd (upd f1 (pn + 1) (bv_AW a9)) (((pn + 1) + 1) - 2) (bv_join (nI kd) ((upd f1 (pn + 1) (bv_AW a9)) (((pn + 1) + 1) - 2)) ((upd f1 (pn + 1) (bv_AW a9)) (((pn + 1) + 1) - 1)))))), (xb, .inr (0, [.ref as, .ref ar, .ref am, .int (nI bn)])), (as, .inl (cI, 10, .inl bs)), (ar, .inl (cI, 10, .inl br)), (am, .inl (cI, 1024, .inl mt)), (xm, .inr (1, [.ref al, .ref ak])), (al, .inl (cI, 16, .inl lv)), (ak, .inl (cI, 16, .inl ks))]) [0, 1, 2, 3, 4, 5, 6, 7, 8, 9] (by decide) rfl
                            generalize H1 = H at hP hS ⊢
                            rw [show (upd (upd f1 (pn + 1) (bv_AW a9)) (((pn + 1) + 1) - 2) (bv_join (nI kd) ((upd f1 (pn + 1) (bv_AW a9)) (((pn + 1) + 1) - 2)) ((upd f1 (pn + 1) (bv_AW a9)) (((pn + 1) + 1) - 1)))) = (upd (upd f1 (pn + 1) (bv_AW a9)) pn (bv_join (nI kd) md (bv_AW a9))) from by rw [bv_updS, bv_updP, hz3]; rfl] at hP hD
                            refine lv_iload (pc := 317) hx hb dL_build_317 (lv_at hl 1 rfl) ?_
                            refine lv_icmp_eq (pc := 319) (tgt := 324) hx hb dL_build_319 (by decide) (fun c319_28 => ?_) (fun c319_28 => ?_)
                            · refine lv_iload (pc := 324) hx hb dL_build_324 (lv_at hl 1 rfl) ?_
                              refine lv_istore_n (pc := 326) (lv' := [(3, .int (bv_join (nI kd) md (bv_AW a9))), (11, .int (nI 16)), (10, .int (bv_join (nI kd) md (bv_AW a9))), (9, .int (nI kd)), (8, .int (bv_AW a9)), (7, .int (nI a9)), (6, .int y9), (5, .int (nI k)), (4, .int (nI (1 + np0))), (2, .int (nI pn)), (0, .ref x), (1, .int xx)]) hx hb dL_build_326 rfl hl (by decide) rfl (fun ls hl => ?_)
                              refine lv_iinc (pc := 327) (v := (nI (k + 1))) (lv' := [(5, .int (nI (k + 1))), (3, .int (bv_join (nI kd) md (bv_AW a9))), (11, .int (nI 16)), (10, .int (bv_join (nI kd) md (bv_AW a9))), (9, .int (nI kd)), (8, .int (bv_AW a9)), (7, .int (nI a9)), (6, .int y9), (4, .int (nI (1 + np0))), (2, .int (nI pn)), (0, .ref x), (1, .int xx)]) hx hb dL_build_327 hl (k := 7) rfl (nI_1 k) (by decide) rfl (fun ls hl => ?_)
                              refine lv_goto (pc := 330) (tgt := 19) hx hb dL_build_330 (by decide) ?_
                              exact ih_19 (k + 1) (((pn + 1) + 1) - 1) (bv_join (nI kd) md (bv_AW a9)) (upd (upd f1 (pn + 1) (bv_AW a9)) pn (bv_join (nI kd) md (bv_AW a9))) (by omega) (by omega) (Or.inr ⟨by omega, rfl, (bv_join16 hz2 (by first | exact bv_AW16 a9 ha9 | exact bv_not16 _)), bv_upd1⟩) (fun j hj => by rw [bv_updO (by omega), bv_updO (by omega)]; exact hpre j hj) H _ hP hD hS ls (lv_sub hl [0, 8, 1, 9, 10, 11] rfl)
                            · exact absurd rfl c319_28
                          · have hw6 : wv < 16 := by
                              by_cases h : wv < 16
                              · exact h
                              · exact absurd (show nI 16 ≤ nI wv from nI_le (by omega) (by omega)) c164_25
                            refine lv_iload_n (pc := 167) hx hb dL_build_167 rfl (lv_at hl 8 rfl) ?_
                            refine lv_iload (pc := 168) hx hb dL_build_168 (lv_at hl 0 rfl) ?_
                            refine lv_ishr (pc := 170) hx hb dL_build_170 ?_
                            refine lv_iconst (pc := 171) (v := 1) hx hb dL_build_171 (by decide) ?_
                            refine lv_iand (pc := 172) hx hb dL_build_172 ?_
                            refine lv_iconst (pc := 173) (v := 1) hx hb dL_build_173 (by decide) ?_
                            refine lv_icmp_ne (pc := 174) (tgt := 181) hx hb dL_build_174 (by decide) (fun c174_29 => ?_) (fun c174_29 => ?_)
                            · have hP9 : bv_has md (nI wv) = false := decide_eq_false c174_29
                              refine lv_iconst (pc := 181) (v := 0) hx hb dL_build_181 (by decide) ?_
                              refine lv_istore (pc := 182) (lv' := [(12, .int 0), (11, .int (nI wv)), (10, .int bo), (9, .int (nI kd)), (8, .int (bv_AW a9)), (7, .int (nI a9)), (6, .int y9), (5, .int (nI k)), (4, .int (nI (1 + np0))), (3, .int md), (2, .int (nI pn)), (0, .ref x), (1, .int xx)]) hx hb dL_build_182 hl (by decide) rfl (fun ls hl => ?_)
                              refine lv_iload (pc := 184) hx hb dL_build_184 (lv_at hl 4 rfl) ?_
                              refine lv_iload (pc := 186) hx hb dL_build_186 (lv_at hl 1 rfl) ?_
                              refine lv_ishr (pc := 188) hx hb dL_build_188 ?_
                              refine lv_iconst (pc := 189) (v := 1) hx hb dL_build_189 (by decide) ?_
                              refine lv_iand (pc := 190) hx hb dL_build_190 ?_
                              refine lv_iconst (pc := 191) (v := 1) hx hb dL_build_191 (by decide) ?_
                              refine lv_icmp_ne (pc := 192) (tgt := 199) hx hb dL_build_192 (by decide) (fun c192_30 => ?_) (fun c192_30 => ?_)
                              · have hQ9 : bv_has (bv_AW a9) (nI wv) = false := decide_eq_false c192_30
                                refine lv_iconst (pc := 199) (v := 0) hx hb dL_build_199 (by decide) ?_
                                refine lv_istore (pc := 200) (lv' := [(13, .int 0), (12, .int 0), (11, .int (nI wv)), (10, .int bo), (9, .int (nI kd)), (8, .int (bv_AW a9)), (7, .int (nI a9)), (6, .int y9), (5, .int (nI k)), (4, .int (nI (1 + np0))), (3, .int md), (2, .int (nI pn)), (0, .ref x), (1, .int xx)]) hx hb dL_build_200 hl (by decide) rfl (fun ls hl => ?_)
                                rcases (show kd = 0 ∨ kd = 1 ∨ kd = 2 ∨ kd = 3 by omega) with rfl | rfl | rfl | rfl
                                · refine lv_iload (pc := 202) hx hb dL_build_202 (lv_at hl 4 rfl) ?_
                                  refine lv_if_ne (pc := 204) (tgt := 225) hx hb dL_build_204 (by decide) (fun c204_31 => ?_) (fun c204_31 => ?_)
                                  · exact absurd c204_31 (by decide)
                                  · refine lv_iload (pc := 207) hx hb dL_build_207 (lv_at hl 1 rfl) ?_
                                    refine lv_if_eq (pc := 209) (tgt := 221) hx hb dL_build_209 (by decide) (fun c209_32 => ?_) (fun c209_32 => ?_)
                                    · refine lv_iconst (pc := 221) (v := 0) hx hb dL_build_221 (by decide) ?_
                                      refine lv_goto (pc := 222) (tgt := 285) hx hb dL_build_222 (by decide) ?_
                                      refine lv_istore (pc := 285) (lv' := [(14, .int 0), (13, .int 0), (12, .int 0), (11, .int (nI wv)), (10, .int bo), (9, .int (nI 0)), (8, .int (bv_AW a9)), (7, .int (nI a9)), (6, .int y9), (5, .int (nI k)), (4, .int (nI (1 + np0))), (3, .int md), (2, .int (nI pn)), (0, .ref x), (1, .int xx)]) hx hb dL_build_285 hl (by decide) rfl (fun ls hl => ?_)
                                      refine lv_iload (pc := 287) hx hb dL_build_287 (lv_at hl 4 rfl) ?_
                                      refine lv_iload (pc := 289) hx hb dL_build_289 (lv_at hl 0 rfl) ?_
                                      refine lv_if_eq (pc := 291) (tgt := 301) hx hb dL_build_291 (by decide) (fun c291_33 => ?_) (fun c291_33 => ?_)
                                      · refine lv_iconst (pc := 301) (v := 0) hx hb dL_build_301 (by decide) ?_
                                        refine lv_ior (pc := 302) hx hb dL_build_302 ?_
                                        refine lv_istore (pc := 303) (lv' := [(10, .int (bo ||| 0)), (14, .int 0), (13, .int 0), (12, .int 0), (11, .int (nI wv)), (9, .int (nI 0)), (8, .int (bv_AW a9)), (7, .int (nI a9)), (6, .int y9), (5, .int (nI k)), (4, .int (nI (1 + np0))), (3, .int md), (2, .int (nI pn)), (0, .ref x), (1, .int xx)]) hx hb dL_build_303 hl (by decide) rfl (fun ls hl => ?_)
                                        refine lv_iinc (pc := 305) (v := (nI (wv + 1))) (lv' := [(11, .int (nI (wv + 1))), (10, .int (bo ||| 0)), (14, .int 0), (13, .int 0), (12, .int 0), (9, .int (nI 0)), (8, .int (bv_AW a9)), (7, .int (nI a9)), (6, .int y9), (5, .int (nI k)), (4, .int (nI (1 + np0))), (3, .int md), (2, .int (nI pn)), (0, .ref x), (1, .int xx)]) hx hb dL_build_305 hl (k := 4) rfl (nI_1 wv) (by decide) rfl (fun ls hl => ?_)
                                        refine lv_goto (pc := 308) (tgt := 160) hx hb dL_build_308 (by decide) ?_
                                        exact ih (wv + 1) (bo ||| 0) (by omega) (by omega) (by rw [bv_bo, ← hbo, hP9, hQ9]; rfl) H _ hP hD hS ls (lv_sub hl [0, 1, 5, 6, 7, 8, 9, 10, 11, 12, 13, 14] rfl)
                                      · exact absurd c291_33 (by decide)
                                    · exact absurd c209_32 (by decide)
                                · refine lv_iload (pc := 202) hx hb dL_build_202 (lv_at hl 4 rfl) ?_
                                  refine lv_if_ne (pc := 204) (tgt := 225) hx hb dL_build_204 (by decide) (fun c204_34 => ?_) (fun c204_34 => ?_)
                                  · refine lv_iload (pc := 225) hx hb dL_build_225 (lv_at hl 4 rfl) ?_
                                    refine lv_iconst (pc := 227) (v := 1) hx hb dL_build_227 (by decide) ?_
                                    refine lv_icmp_ne (pc := 228) (tgt := 249) hx hb dL_build_228 (by decide) (fun c228_35 => ?_) (fun c228_35 => ?_)
                                    · exact absurd c228_35 (by decide)
                                    · refine lv_iload (pc := 231) hx hb dL_build_231 (lv_at hl 1 rfl) ?_
                                      refine lv_if_ne (pc := 233) (tgt := 241) hx hb dL_build_233 (by decide) (fun c233_36 => ?_) (fun c233_36 => ?_)
                                      · exact absurd c233_36 (by decide)
                                      · refine lv_iload (pc := 236) hx hb dL_build_236 (lv_at hl 0 rfl) ?_
                                        refine lv_if_eq (pc := 238) (tgt := 245) hx hb dL_build_238 (by decide) (fun c238_37 => ?_) (fun c238_37 => ?_)
                                        · refine lv_iconst (pc := 245) (v := 0) hx hb dL_build_245 (by decide) ?_
                                          refine lv_goto (pc := 246) (tgt := 285) hx hb dL_build_246 (by decide) ?_
                                          refine lv_istore (pc := 285) (lv' := [(14, .int 0), (13, .int 0), (12, .int 0), (11, .int (nI wv)), (10, .int bo), (9, .int (nI 1)), (8, .int (bv_AW a9)), (7, .int (nI a9)), (6, .int y9), (5, .int (nI k)), (4, .int (nI (1 + np0))), (3, .int md), (2, .int (nI pn)), (0, .ref x), (1, .int xx)]) hx hb dL_build_285 hl (by decide) rfl (fun ls hl => ?_)
                                          refine lv_iload (pc := 287) hx hb dL_build_287 (lv_at hl 4 rfl) ?_
                                          refine lv_iload (pc := 289) hx hb dL_build_289 (lv_at hl 0 rfl) ?_
                                          refine lv_if_eq (pc := 291) (tgt := 301) hx hb dL_build_291 (by decide) (fun c291_38 => ?_) (fun c291_38 => ?_)
                                          · refine lv_iconst (pc := 301) (v := 0) hx hb dL_build_301 (by decide) ?_
                                            refine lv_ior (pc := 302) hx hb dL_build_302 ?_
                                            refine lv_istore (pc := 303) (lv' := [(10, .int (bo ||| 0)), (14, .int 0), (13, .int 0), (12, .int 0), (11, .int (nI wv)), (9, .int (nI 1)), (8, .int (bv_AW a9)), (7, .int (nI a9)), (6, .int y9), (5, .int (nI k)), (4, .int (nI (1 + np0))), (3, .int md), (2, .int (nI pn)), (0, .ref x), (1, .int xx)]) hx hb dL_build_303 hl (by decide) rfl (fun ls hl => ?_)
                                            refine lv_iinc (pc := 305) (v := (nI (wv + 1))) (lv' := [(11, .int (nI (wv + 1))), (10, .int (bo ||| 0)), (14, .int 0), (13, .int 0), (12, .int 0), (9, .int (nI 1)), (8, .int (bv_AW a9)), (7, .int (nI a9)), (6, .int y9), (5, .int (nI k)), (4, .int (nI (1 + np0))), (3, .int md), (2, .int (nI pn)), (0, .ref x), (1, .int xx)]) hx hb dL_build_305 hl (k := 4) rfl (nI_1 wv) (by decide) rfl (fun ls hl => ?_)
                                            refine lv_goto (pc := 308) (tgt := 160) hx hb dL_build_308 (by decide) ?_
                                            exact ih (wv + 1) (bo ||| 0) (by omega) (by omega) (by rw [bv_bo, ← hbo, hP9, hQ9]; rfl) H _ hP hD hS ls (lv_sub hl [0, 1, 5, 6, 7, 8, 9, 10, 11, 12, 13, 14] rfl)
                                          · exact absurd c291_38 (by decide)
                                        · exact absurd c238_37 (by decide)
                                  · exact absurd c204_34 (by decide)
                                · refine lv_iload (pc := 202) hx hb dL_build_202 (lv_at hl 4 rfl) ?_
                                  refine lv_if_ne (pc := 204) (tgt := 225) hx hb dL_build_204 (by decide) (fun c204_39 => ?_) (fun c204_39 => ?_)
                                  · refine lv_iload (pc := 225) hx hb dL_build_225 (lv_at hl 4 rfl) ?_
                                    refine lv_iconst (pc := 227) (v := 1) hx hb dL_build_227 (by decide) ?_
                                    refine lv_icmp_ne (pc := 228) (tgt := 249) hx hb dL_build_228 (by decide) (fun c228_40 => ?_) (fun c228_40 => ?_)
                                    · refine lv_iload (pc := 249) hx hb dL_build_249 (lv_at hl 4 rfl) ?_
                                      refine lv_iconst (pc := 251) (v := 2) hx hb dL_build_251 (by decide) ?_
                                      refine lv_icmp_ne (pc := 252) (tgt := 273) hx hb dL_build_252 (by decide) (fun c252_41 => ?_) (fun c252_41 => ?_)
                                      · exact absurd c252_41 (by decide)
                                      · refine lv_iload (pc := 255) hx hb dL_build_255 (lv_at hl 1 rfl) ?_
                                        refine lv_if_ne (pc := 257) (tgt := 265) hx hb dL_build_257 (by decide) (fun c257_42 => ?_) (fun c257_42 => ?_)
                                        · exact absurd c257_42 (by decide)
                                        · refine lv_iload (pc := 260) hx hb dL_build_260 (lv_at hl 0 rfl) ?_
                                          refine lv_if_ne (pc := 262) (tgt := 269) hx hb dL_build_262 (by decide) (fun c262_43 => ?_) (fun c262_43 => ?_)
                                          · exact absurd c262_43 (by decide)
                                          · refine lv_iconst (pc := 265) (v := 1) hx hb dL_build_265 (by decide) ?_
                                            refine lv_goto (pc := 266) (tgt := 285) hx hb dL_build_266 (by decide) ?_
                                            refine lv_istore (pc := 285) (lv' := [(14, .int 1), (13, .int 0), (12, .int 0), (11, .int (nI wv)), (10, .int bo), (9, .int (nI 2)), (8, .int (bv_AW a9)), (7, .int (nI a9)), (6, .int y9), (5, .int (nI k)), (4, .int (nI (1 + np0))), (3, .int md), (2, .int (nI pn)), (0, .ref x), (1, .int xx)]) hx hb dL_build_285 hl (by decide) rfl (fun ls hl => ?_)
                                            refine lv_iload (pc := 287) hx hb dL_build_287 (lv_at hl 4 rfl) ?_
                                            refine lv_iload (pc := 289) hx hb dL_build_289 (lv_at hl 0 rfl) ?_
                                            refine lv_if_eq (pc := 291) (tgt := 301) hx hb dL_build_291 (by decide) (fun c291_44 => ?_) (fun c291_44 => ?_)
                                            · exact absurd c291_44 (by decide)
                                            · refine lv_iconst (pc := 294) (v := 1) hx hb dL_build_294 (by decide) ?_
                                              refine lv_iload (pc := 295) hx hb dL_build_295 (lv_at hl 3 rfl) ?_
                                              refine lv_ishl (pc := 297) hx hb dL_build_297 ?_
                                              refine lv_goto (pc := 298) (tgt := 302) hx hb dL_build_298 (by decide) ?_
                                              refine lv_ior (pc := 302) hx hb dL_build_302 ?_
                                              refine lv_istore (pc := 303) (lv' := [(10, .int (bo ||| (1 <<< ((nI wv) &&& 31)))), (14, .int 1), (13, .int 0), (12, .int 0), (11, .int (nI wv)), (9, .int (nI 2)), (8, .int (bv_AW a9)), (7, .int (nI a9)), (6, .int y9), (5, .int (nI k)), (4, .int (nI (1 + np0))), (3, .int md), (2, .int (nI pn)), (0, .ref x), (1, .int xx)]) hx hb dL_build_303 hl (by decide) rfl (fun ls hl => ?_)
                                              refine lv_iinc (pc := 305) (v := (nI (wv + 1))) (lv' := [(11, .int (nI (wv + 1))), (10, .int (bo ||| (1 <<< ((nI wv) &&& 31)))), (14, .int 1), (13, .int 0), (12, .int 0), (9, .int (nI 2)), (8, .int (bv_AW a9)), (7, .int (nI a9)), (6, .int y9), (5, .int (nI k)), (4, .int (nI (1 + np0))), (3, .int md), (2, .int (nI pn)), (0, .ref x), (1, .int xx)]) hx hb dL_build_305 hl (k := 4) rfl (nI_1 wv) (by decide) rfl (fun ls hl => ?_)
                                              refine lv_goto (pc := 308) (tgt := 160) hx hb dL_build_308 (by decide) ?_
                                              exact ih (wv + 1) (bo ||| (1 <<< ((nI wv) &&& 31))) (by omega) (by omega) (by rw [bv_bo, ← hbo, hP9, hQ9]; rfl) H _ hP hD hS ls (lv_sub hl [0, 1, 5, 6, 7, 8, 9, 10, 11, 12, 13, 14] rfl)
                                    · exact absurd c228_40 (by decide)
                                  · exact absurd c204_39 (by decide)
                                · refine lv_iload (pc := 202) hx hb dL_build_202 (lv_at hl 4 rfl) ?_
                                  refine lv_if_ne (pc := 204) (tgt := 225) hx hb dL_build_204 (by decide) (fun c204_45 => ?_) (fun c204_45 => ?_)
                                  · refine lv_iload (pc := 225) hx hb dL_build_225 (lv_at hl 4 rfl) ?_
                                    refine lv_iconst (pc := 227) (v := 1) hx hb dL_build_227 (by decide) ?_
                                    refine lv_icmp_ne (pc := 228) (tgt := 249) hx hb dL_build_228 (by decide) (fun c228_46 => ?_) (fun c228_46 => ?_)
                                    · refine lv_iload (pc := 249) hx hb dL_build_249 (lv_at hl 4 rfl) ?_
                                      refine lv_iconst (pc := 251) (v := 2) hx hb dL_build_251 (by decide) ?_
                                      refine lv_icmp_ne (pc := 252) (tgt := 273) hx hb dL_build_252 (by decide) (fun c252_47 => ?_) (fun c252_47 => ?_)
                                      · refine lv_iload (pc := 273) hx hb dL_build_273 (lv_at hl 1 rfl) ?_
                                        refine lv_iload (pc := 275) hx hb dL_build_275 (lv_at hl 0 rfl) ?_
                                        refine lv_icmp_ne (pc := 277) (tgt := 284) hx hb dL_build_277 (by decide) (fun c277_48 => ?_) (fun c277_48 => ?_)
                                        · exact absurd c277_48 (by decide)
                                        · refine lv_iconst (pc := 280) (v := 1) hx hb dL_build_280 (by decide) ?_
                                          refine lv_goto (pc := 281) (tgt := 285) hx hb dL_build_281 (by decide) ?_
                                          refine lv_istore (pc := 285) (lv' := [(14, .int 1), (13, .int 0), (12, .int 0), (11, .int (nI wv)), (10, .int bo), (9, .int (nI 3)), (8, .int (bv_AW a9)), (7, .int (nI a9)), (6, .int y9), (5, .int (nI k)), (4, .int (nI (1 + np0))), (3, .int md), (2, .int (nI pn)), (0, .ref x), (1, .int xx)]) hx hb dL_build_285 hl (by decide) rfl (fun ls hl => ?_)
                                          refine lv_iload (pc := 287) hx hb dL_build_287 (lv_at hl 4 rfl) ?_
                                          refine lv_iload (pc := 289) hx hb dL_build_289 (lv_at hl 0 rfl) ?_
                                          refine lv_if_eq (pc := 291) (tgt := 301) hx hb dL_build_291 (by decide) (fun c291_49 => ?_) (fun c291_49 => ?_)
                                          · exact absurd c291_49 (by decide)
                                          · refine lv_iconst (pc := 294) (v := 1) hx hb dL_build_294 (by decide) ?_
                                            refine lv_iload (pc := 295) hx hb dL_build_295 (lv_at hl 3 rfl) ?_
                                            refine lv_ishl (pc := 297) hx hb dL_build_297 ?_
                                            refine lv_goto (pc := 298) (tgt := 302) hx hb dL_build_298 (by decide) ?_
                                            refine lv_ior (pc := 302) hx hb dL_build_302 ?_
                                            refine lv_istore (pc := 303) (lv' := [(10, .int (bo ||| (1 <<< ((nI wv) &&& 31)))), (14, .int 1), (13, .int 0), (12, .int 0), (11, .int (nI wv)), (9, .int (nI 3)), (8, .int (bv_AW a9)), (7, .int (nI a9)), (6, .int y9), (5, .int (nI k)), (4, .int (nI (1 + np0))), (3, .int md), (2, .int (nI pn)), (0, .ref x), (1, .int xx)]) hx hb dL_build_303 hl (by decide) rfl (fun ls hl => ?_)
                                            refine lv_iinc (pc := 305) (v := (nI (wv + 1))) (lv' := [(11, .int (nI (wv + 1))), (10, .int (bo ||| (1 <<< ((nI wv) &&& 31)))), (14, .int 1), (13, .int 0), (12, .int 0), (9, .int (nI 3)), (8, .int (bv_AW a9)), (7, .int (nI a9)), (6, .int y9), (5, .int (nI k)), (4, .int (nI (1 + np0))), (3, .int md), (2, .int (nI pn)), (0, .ref x), (1, .int xx)]) hx hb dL_build_305 hl (k := 4) rfl (nI_1 wv) (by decide) rfl (fun ls hl => ?_)
                                            refine lv_goto (pc := 308) (tgt := 160) hx hb dL_build_308 (by decide) ?_
                                            exact ih (wv + 1) (bo ||| (1 <<< ((nI wv) &&& 31))) (by omega) (by omega) (by rw [bv_bo, ← hbo, hP9, hQ9]; rfl) H _ hP hD hS ls (lv_sub hl [0, 1, 5, 6, 7, 8, 9, 10, 11, 12, 13, 14] rfl)
                                      · exact absurd c252_47 (by decide)
                                    · exact absurd c228_46 (by decide)
                                  · exact absurd c204_45 (by decide)
                              · have hQ9 : bv_has (bv_AW a9) (nI wv) = true := decide_eq_true c192_30
                                refine lv_iconst (pc := 195) (v := 1) hx hb dL_build_195 (by decide) ?_
                                refine lv_goto (pc := 196) (tgt := 200) hx hb dL_build_196 (by decide) ?_
                                refine lv_istore (pc := 200) (lv' := [(13, .int 1), (12, .int 0), (11, .int (nI wv)), (10, .int bo), (9, .int (nI kd)), (8, .int (bv_AW a9)), (7, .int (nI a9)), (6, .int y9), (5, .int (nI k)), (4, .int (nI (1 + np0))), (3, .int md), (2, .int (nI pn)), (0, .ref x), (1, .int xx)]) hx hb dL_build_200 hl (by decide) rfl (fun ls hl => ?_)
                                rcases (show kd = 0 ∨ kd = 1 ∨ kd = 2 ∨ kd = 3 by omega) with rfl | rfl | rfl | rfl
                                · refine lv_iload (pc := 202) hx hb dL_build_202 (lv_at hl 4 rfl) ?_
                                  refine lv_if_ne (pc := 204) (tgt := 225) hx hb dL_build_204 (by decide) (fun c204_50 => ?_) (fun c204_50 => ?_)
                                  · exact absurd c204_50 (by decide)
                                  · refine lv_iload (pc := 207) hx hb dL_build_207 (lv_at hl 1 rfl) ?_
                                    refine lv_if_eq (pc := 209) (tgt := 221) hx hb dL_build_209 (by decide) (fun c209_51 => ?_) (fun c209_51 => ?_)
                                    · refine lv_iconst (pc := 221) (v := 0) hx hb dL_build_221 (by decide) ?_
                                      refine lv_goto (pc := 222) (tgt := 285) hx hb dL_build_222 (by decide) ?_
                                      refine lv_istore (pc := 285) (lv' := [(14, .int 0), (13, .int 1), (12, .int 0), (11, .int (nI wv)), (10, .int bo), (9, .int (nI 0)), (8, .int (bv_AW a9)), (7, .int (nI a9)), (6, .int y9), (5, .int (nI k)), (4, .int (nI (1 + np0))), (3, .int md), (2, .int (nI pn)), (0, .ref x), (1, .int xx)]) hx hb dL_build_285 hl (by decide) rfl (fun ls hl => ?_)
                                      refine lv_iload (pc := 287) hx hb dL_build_287 (lv_at hl 4 rfl) ?_
                                      refine lv_iload (pc := 289) hx hb dL_build_289 (lv_at hl 0 rfl) ?_
                                      refine lv_if_eq (pc := 291) (tgt := 301) hx hb dL_build_291 (by decide) (fun c291_52 => ?_) (fun c291_52 => ?_)
                                      · refine lv_iconst (pc := 301) (v := 0) hx hb dL_build_301 (by decide) ?_
                                        refine lv_ior (pc := 302) hx hb dL_build_302 ?_
                                        refine lv_istore (pc := 303) (lv' := [(10, .int (bo ||| 0)), (14, .int 0), (13, .int 1), (12, .int 0), (11, .int (nI wv)), (9, .int (nI 0)), (8, .int (bv_AW a9)), (7, .int (nI a9)), (6, .int y9), (5, .int (nI k)), (4, .int (nI (1 + np0))), (3, .int md), (2, .int (nI pn)), (0, .ref x), (1, .int xx)]) hx hb dL_build_303 hl (by decide) rfl (fun ls hl => ?_)
                                        refine lv_iinc (pc := 305) (v := (nI (wv + 1))) (lv' := [(11, .int (nI (wv + 1))), (10, .int (bo ||| 0)), (14, .int 0), (13, .int 1), (12, .int 0), (9, .int (nI 0)), (8, .int (bv_AW a9)), (7, .int (nI a9)), (6, .int y9), (5, .int (nI k)), (4, .int (nI (1 + np0))), (3, .int md), (2, .int (nI pn)), (0, .ref x), (1, .int xx)]) hx hb dL_build_305 hl (k := 4) rfl (nI_1 wv) (by decide) rfl (fun ls hl => ?_)
                                        refine lv_goto (pc := 308) (tgt := 160) hx hb dL_build_308 (by decide) ?_
                                        exact ih (wv + 1) (bo ||| 0) (by omega) (by omega) (by rw [bv_bo, ← hbo, hP9, hQ9]; rfl) H _ hP hD hS ls (lv_sub hl [0, 1, 5, 6, 7, 8, 9, 10, 11, 12, 13, 14] rfl)
                                      · exact absurd c291_52 (by decide)
                                    · exact absurd c209_51 (by decide)
                                · refine lv_iload (pc := 202) hx hb dL_build_202 (lv_at hl 4 rfl) ?_
                                  refine lv_if_ne (pc := 204) (tgt := 225) hx hb dL_build_204 (by decide) (fun c204_53 => ?_) (fun c204_53 => ?_)
                                  · refine lv_iload (pc := 225) hx hb dL_build_225 (lv_at hl 4 rfl) ?_
                                    refine lv_iconst (pc := 227) (v := 1) hx hb dL_build_227 (by decide) ?_
                                    refine lv_icmp_ne (pc := 228) (tgt := 249) hx hb dL_build_228 (by decide) (fun c228_54 => ?_) (fun c228_54 => ?_)
                                    · exact absurd c228_54 (by decide)
                                    · refine lv_iload (pc := 231) hx hb dL_build_231 (lv_at hl 1 rfl) ?_
                                      refine lv_if_ne (pc := 233) (tgt := 241) hx hb dL_build_233 (by decide) (fun c233_55 => ?_) (fun c233_55 => ?_)
                                      · exact absurd c233_55 (by decide)
                                      · refine lv_iload (pc := 236) hx hb dL_build_236 (lv_at hl 0 rfl) ?_
                                        refine lv_if_eq (pc := 238) (tgt := 245) hx hb dL_build_238 (by decide) (fun c238_56 => ?_) (fun c238_56 => ?_)
                                        · exact absurd c238_56 (by decide)
                                        · refine lv_iconst (pc := 241) (v := 1) hx hb dL_build_241 (by decide) ?_
                                          refine lv_goto (pc := 242) (tgt := 285) hx hb dL_build_242 (by decide) ?_
                                          refine lv_istore (pc := 285) (lv' := [(14, .int 1), (13, .int 1), (12, .int 0), (11, .int (nI wv)), (10, .int bo), (9, .int (nI 1)), (8, .int (bv_AW a9)), (7, .int (nI a9)), (6, .int y9), (5, .int (nI k)), (4, .int (nI (1 + np0))), (3, .int md), (2, .int (nI pn)), (0, .ref x), (1, .int xx)]) hx hb dL_build_285 hl (by decide) rfl (fun ls hl => ?_)
                                          refine lv_iload (pc := 287) hx hb dL_build_287 (lv_at hl 4 rfl) ?_
                                          refine lv_iload (pc := 289) hx hb dL_build_289 (lv_at hl 0 rfl) ?_
                                          refine lv_if_eq (pc := 291) (tgt := 301) hx hb dL_build_291 (by decide) (fun c291_57 => ?_) (fun c291_57 => ?_)
                                          · exact absurd c291_57 (by decide)
                                          · refine lv_iconst (pc := 294) (v := 1) hx hb dL_build_294 (by decide) ?_
                                            refine lv_iload (pc := 295) hx hb dL_build_295 (lv_at hl 3 rfl) ?_
                                            refine lv_ishl (pc := 297) hx hb dL_build_297 ?_
                                            refine lv_goto (pc := 298) (tgt := 302) hx hb dL_build_298 (by decide) ?_
                                            refine lv_ior (pc := 302) hx hb dL_build_302 ?_
                                            refine lv_istore (pc := 303) (lv' := [(10, .int (bo ||| (1 <<< ((nI wv) &&& 31)))), (14, .int 1), (13, .int 1), (12, .int 0), (11, .int (nI wv)), (9, .int (nI 1)), (8, .int (bv_AW a9)), (7, .int (nI a9)), (6, .int y9), (5, .int (nI k)), (4, .int (nI (1 + np0))), (3, .int md), (2, .int (nI pn)), (0, .ref x), (1, .int xx)]) hx hb dL_build_303 hl (by decide) rfl (fun ls hl => ?_)
                                            refine lv_iinc (pc := 305) (v := (nI (wv + 1))) (lv' := [(11, .int (nI (wv + 1))), (10, .int (bo ||| (1 <<< ((nI wv) &&& 31)))), (14, .int 1), (13, .int 1), (12, .int 0), (9, .int (nI 1)), (8, .int (bv_AW a9)), (7, .int (nI a9)), (6, .int y9), (5, .int (nI k)), (4, .int (nI (1 + np0))), (3, .int md), (2, .int (nI pn)), (0, .ref x), (1, .int xx)]) hx hb dL_build_305 hl (k := 4) rfl (nI_1 wv) (by decide) rfl (fun ls hl => ?_)
                                            refine lv_goto (pc := 308) (tgt := 160) hx hb dL_build_308 (by decide) ?_
                                            exact ih (wv + 1) (bo ||| (1 <<< ((nI wv) &&& 31))) (by omega) (by omega) (by rw [bv_bo, ← hbo, hP9, hQ9]; rfl) H _ hP hD hS ls (lv_sub hl [0, 1, 5, 6, 7, 8, 9, 10, 11, 12, 13, 14] rfl)
                                  · exact absurd c204_53 (by decide)
                                · refine lv_iload (pc := 202) hx hb dL_build_202 (lv_at hl 4 rfl) ?_
                                  refine lv_if_ne (pc := 204) (tgt := 225) hx hb dL_build_204 (by decide) (fun c204_58 => ?_) (fun c204_58 => ?_)
                                  · refine lv_iload (pc := 225) hx hb dL_build_225 (lv_at hl 4 rfl) ?_
                                    refine lv_iconst (pc := 227) (v := 1) hx hb dL_build_227 (by decide) ?_
                                    refine lv_icmp_ne (pc := 228) (tgt := 249) hx hb dL_build_228 (by decide) (fun c228_59 => ?_) (fun c228_59 => ?_)
                                    · refine lv_iload (pc := 249) hx hb dL_build_249 (lv_at hl 4 rfl) ?_
                                      refine lv_iconst (pc := 251) (v := 2) hx hb dL_build_251 (by decide) ?_
                                      refine lv_icmp_ne (pc := 252) (tgt := 273) hx hb dL_build_252 (by decide) (fun c252_60 => ?_) (fun c252_60 => ?_)
                                      · exact absurd c252_60 (by decide)
                                      · refine lv_iload (pc := 255) hx hb dL_build_255 (lv_at hl 1 rfl) ?_
                                        refine lv_if_ne (pc := 257) (tgt := 265) hx hb dL_build_257 (by decide) (fun c257_61 => ?_) (fun c257_61 => ?_)
                                        · exact absurd c257_61 (by decide)
                                        · refine lv_iload (pc := 260) hx hb dL_build_260 (lv_at hl 0 rfl) ?_
                                          refine lv_if_ne (pc := 262) (tgt := 269) hx hb dL_build_262 (by decide) (fun c262_62 => ?_) (fun c262_62 => ?_)
                                          · refine lv_iconst (pc := 269) (v := 0) hx hb dL_build_269 (by decide) ?_
                                            refine lv_goto (pc := 270) (tgt := 285) hx hb dL_build_270 (by decide) ?_
                                            refine lv_istore (pc := 285) (lv' := [(14, .int 0), (13, .int 1), (12, .int 0), (11, .int (nI wv)), (10, .int bo), (9, .int (nI 2)), (8, .int (bv_AW a9)), (7, .int (nI a9)), (6, .int y9), (5, .int (nI k)), (4, .int (nI (1 + np0))), (3, .int md), (2, .int (nI pn)), (0, .ref x), (1, .int xx)]) hx hb dL_build_285 hl (by decide) rfl (fun ls hl => ?_)
                                            refine lv_iload (pc := 287) hx hb dL_build_287 (lv_at hl 4 rfl) ?_
                                            refine lv_iload (pc := 289) hx hb dL_build_289 (lv_at hl 0 rfl) ?_
                                            refine lv_if_eq (pc := 291) (tgt := 301) hx hb dL_build_291 (by decide) (fun c291_63 => ?_) (fun c291_63 => ?_)
                                            · refine lv_iconst (pc := 301) (v := 0) hx hb dL_build_301 (by decide) ?_
                                              refine lv_ior (pc := 302) hx hb dL_build_302 ?_
                                              refine lv_istore (pc := 303) (lv' := [(10, .int (bo ||| 0)), (14, .int 0), (13, .int 1), (12, .int 0), (11, .int (nI wv)), (9, .int (nI 2)), (8, .int (bv_AW a9)), (7, .int (nI a9)), (6, .int y9), (5, .int (nI k)), (4, .int (nI (1 + np0))), (3, .int md), (2, .int (nI pn)), (0, .ref x), (1, .int xx)]) hx hb dL_build_303 hl (by decide) rfl (fun ls hl => ?_)
                                              refine lv_iinc (pc := 305) (v := (nI (wv + 1))) (lv' := [(11, .int (nI (wv + 1))), (10, .int (bo ||| 0)), (14, .int 0), (13, .int 1), (12, .int 0), (9, .int (nI 2)), (8, .int (bv_AW a9)), (7, .int (nI a9)), (6, .int y9), (5, .int (nI k)), (4, .int (nI (1 + np0))), (3, .int md), (2, .int (nI pn)), (0, .ref x), (1, .int xx)]) hx hb dL_build_305 hl (k := 4) rfl (nI_1 wv) (by decide) rfl (fun ls hl => ?_)
                                              refine lv_goto (pc := 308) (tgt := 160) hx hb dL_build_308 (by decide) ?_
                                              exact ih (wv + 1) (bo ||| 0) (by omega) (by omega) (by rw [bv_bo, ← hbo, hP9, hQ9]; rfl) H _ hP hD hS ls (lv_sub hl [0, 1, 5, 6, 7, 8, 9, 10, 11, 12, 13, 14] rfl)
                                            · exact absurd c291_63 (by decide)
                                          · exact absurd c262_62 (by decide)
                                    · exact absurd c228_59 (by decide)
                                  · exact absurd c204_58 (by decide)
                                · refine lv_iload (pc := 202) hx hb dL_build_202 (lv_at hl 4 rfl) ?_
                                  refine lv_if_ne (pc := 204) (tgt := 225) hx hb dL_build_204 (by decide) (fun c204_64 => ?_) (fun c204_64 => ?_)
                                  · refine lv_iload (pc := 225) hx hb dL_build_225 (lv_at hl 4 rfl) ?_
                                    refine lv_iconst (pc := 227) (v := 1) hx hb dL_build_227 (by decide) ?_
                                    refine lv_icmp_ne (pc := 228) (tgt := 249) hx hb dL_build_228 (by decide) (fun c228_65 => ?_) (fun c228_65 => ?_)
                                    · refine lv_iload (pc := 249) hx hb dL_build_249 (lv_at hl 4 rfl) ?_
                                      refine lv_iconst (pc := 251) (v := 2) hx hb dL_build_251 (by decide) ?_
                                      refine lv_icmp_ne (pc := 252) (tgt := 273) hx hb dL_build_252 (by decide) (fun c252_66 => ?_) (fun c252_66 => ?_)
                                      · refine lv_iload (pc := 273) hx hb dL_build_273 (lv_at hl 1 rfl) ?_
                                        refine lv_iload (pc := 275) hx hb dL_build_275 (lv_at hl 0 rfl) ?_
                                        refine lv_icmp_ne (pc := 277) (tgt := 284) hx hb dL_build_277 (by decide) (fun c277_67 => ?_) (fun c277_67 => ?_)
                                        · refine lv_iconst (pc := 284) (v := 0) hx hb dL_build_284 (by decide) ?_
                                          refine lv_istore (pc := 285) (lv' := [(14, .int 0), (13, .int 1), (12, .int 0), (11, .int (nI wv)), (10, .int bo), (9, .int (nI 3)), (8, .int (bv_AW a9)), (7, .int (nI a9)), (6, .int y9), (5, .int (nI k)), (4, .int (nI (1 + np0))), (3, .int md), (2, .int (nI pn)), (0, .ref x), (1, .int xx)]) hx hb dL_build_285 hl (by decide) rfl (fun ls hl => ?_)
                                          refine lv_iload (pc := 287) hx hb dL_build_287 (lv_at hl 4 rfl) ?_
                                          refine lv_iload (pc := 289) hx hb dL_build_289 (lv_at hl 0 rfl) ?_
                                          refine lv_if_eq (pc := 291) (tgt := 301) hx hb dL_build_291 (by decide) (fun c291_68 => ?_) (fun c291_68 => ?_)
                                          · refine lv_iconst (pc := 301) (v := 0) hx hb dL_build_301 (by decide) ?_
                                            refine lv_ior (pc := 302) hx hb dL_build_302 ?_
                                            refine lv_istore (pc := 303) (lv' := [(10, .int (bo ||| 0)), (14, .int 0), (13, .int 1), (12, .int 0), (11, .int (nI wv)), (9, .int (nI 3)), (8, .int (bv_AW a9)), (7, .int (nI a9)), (6, .int y9), (5, .int (nI k)), (4, .int (nI (1 + np0))), (3, .int md), (2, .int (nI pn)), (0, .ref x), (1, .int xx)]) hx hb dL_build_303 hl (by decide) rfl (fun ls hl => ?_)
                                            refine lv_iinc (pc := 305) (v := (nI (wv + 1))) (lv' := [(11, .int (nI (wv + 1))), (10, .int (bo ||| 0)), (14, .int 0), (13, .int 1), (12, .int 0), (9, .int (nI 3)), (8, .int (bv_AW a9)), (7, .int (nI a9)), (6, .int y9), (5, .int (nI k)), (4, .int (nI (1 + np0))), (3, .int md), (2, .int (nI pn)), (0, .ref x), (1, .int xx)]) hx hb dL_build_305 hl (k := 4) rfl (nI_1 wv) (by decide) rfl (fun ls hl => ?_)
                                            refine lv_goto (pc := 308) (tgt := 160) hx hb dL_build_308 (by decide) ?_
                                            exact ih (wv + 1) (bo ||| 0) (by omega) (by omega) (by rw [bv_bo, ← hbo, hP9, hQ9]; rfl) H _ hP hD hS ls (lv_sub hl [0, 1, 5, 6, 7, 8, 9, 10, 11, 12, 13, 14] rfl)
                                          · exact absurd c291_68 (by decide)
                                        · exact absurd c277_67 (by decide)
                                      · exact absurd c252_66 (by decide)
                                    · exact absurd c228_65 (by decide)
                                  · exact absurd c204_64 (by decide)
                            · have hP9 : bv_has md (nI wv) = true := decide_eq_true c174_29
                              refine lv_iconst (pc := 177) (v := 1) hx hb dL_build_177 (by decide) ?_
                              refine lv_goto (pc := 178) (tgt := 182) hx hb dL_build_178 (by decide) ?_
                              refine lv_istore (pc := 182) (lv' := [(12, .int 1), (11, .int (nI wv)), (10, .int bo), (9, .int (nI kd)), (8, .int (bv_AW a9)), (7, .int (nI a9)), (6, .int y9), (5, .int (nI k)), (4, .int (nI (1 + np0))), (3, .int md), (2, .int (nI pn)), (0, .ref x), (1, .int xx)]) hx hb dL_build_182 hl (by decide) rfl (fun ls hl => ?_)
                              refine lv_iload (pc := 184) hx hb dL_build_184 (lv_at hl 4 rfl) ?_
                              refine lv_iload (pc := 186) hx hb dL_build_186 (lv_at hl 1 rfl) ?_
                              refine lv_ishr (pc := 188) hx hb dL_build_188 ?_
                              refine lv_iconst (pc := 189) (v := 1) hx hb dL_build_189 (by decide) ?_
                              refine lv_iand (pc := 190) hx hb dL_build_190 ?_
                              refine lv_iconst (pc := 191) (v := 1) hx hb dL_build_191 (by decide) ?_
                              refine lv_icmp_ne (pc := 192) (tgt := 199) hx hb dL_build_192 (by decide) (fun c192_69 => ?_) (fun c192_69 => ?_)
                              · have hQ9 : bv_has (bv_AW a9) (nI wv) = false := decide_eq_false c192_69
                                refine lv_iconst (pc := 199) (v := 0) hx hb dL_build_199 (by decide) ?_
                                refine lv_istore (pc := 200) (lv' := [(13, .int 0), (12, .int 1), (11, .int (nI wv)), (10, .int bo), (9, .int (nI kd)), (8, .int (bv_AW a9)), (7, .int (nI a9)), (6, .int y9), (5, .int (nI k)), (4, .int (nI (1 + np0))), (3, .int md), (2, .int (nI pn)), (0, .ref x), (1, .int xx)]) hx hb dL_build_200 hl (by decide) rfl (fun ls hl => ?_)
                                rcases (show kd = 0 ∨ kd = 1 ∨ kd = 2 ∨ kd = 3 by omega) with rfl | rfl | rfl | rfl
                                · refine lv_iload (pc := 202) hx hb dL_build_202 (lv_at hl 4 rfl) ?_
                                  refine lv_if_ne (pc := 204) (tgt := 225) hx hb dL_build_204 (by decide) (fun c204_70 => ?_) (fun c204_70 => ?_)
                                  · exact absurd c204_70 (by decide)
                                  · refine lv_iload (pc := 207) hx hb dL_build_207 (lv_at hl 1 rfl) ?_
                                    refine lv_if_eq (pc := 209) (tgt := 221) hx hb dL_build_209 (by decide) (fun c209_71 => ?_) (fun c209_71 => ?_)
                                    · exact absurd c209_71 (by decide)
                                    · refine lv_iload (pc := 212) hx hb dL_build_212 (lv_at hl 0 rfl) ?_
                                      refine lv_if_eq (pc := 214) (tgt := 221) hx hb dL_build_214 (by decide) (fun c214_72 => ?_) (fun c214_72 => ?_)
                                      · refine lv_iconst (pc := 221) (v := 0) hx hb dL_build_221 (by decide) ?_
                                        refine lv_goto (pc := 222) (tgt := 285) hx hb dL_build_222 (by decide) ?_
                                        refine lv_istore (pc := 285) (lv' := [(14, .int 0), (13, .int 0), (12, .int 1), (11, .int (nI wv)), (10, .int bo), (9, .int (nI 0)), (8, .int (bv_AW a9)), (7, .int (nI a9)), (6, .int y9), (5, .int (nI k)), (4, .int (nI (1 + np0))), (3, .int md), (2, .int (nI pn)), (0, .ref x), (1, .int xx)]) hx hb dL_build_285 hl (by decide) rfl (fun ls hl => ?_)
                                        refine lv_iload (pc := 287) hx hb dL_build_287 (lv_at hl 4 rfl) ?_
                                        refine lv_iload (pc := 289) hx hb dL_build_289 (lv_at hl 0 rfl) ?_
                                        refine lv_if_eq (pc := 291) (tgt := 301) hx hb dL_build_291 (by decide) (fun c291_73 => ?_) (fun c291_73 => ?_)
                                        · refine lv_iconst (pc := 301) (v := 0) hx hb dL_build_301 (by decide) ?_
                                          refine lv_ior (pc := 302) hx hb dL_build_302 ?_
                                          refine lv_istore (pc := 303) (lv' := [(10, .int (bo ||| 0)), (14, .int 0), (13, .int 0), (12, .int 1), (11, .int (nI wv)), (9, .int (nI 0)), (8, .int (bv_AW a9)), (7, .int (nI a9)), (6, .int y9), (5, .int (nI k)), (4, .int (nI (1 + np0))), (3, .int md), (2, .int (nI pn)), (0, .ref x), (1, .int xx)]) hx hb dL_build_303 hl (by decide) rfl (fun ls hl => ?_)
                                          refine lv_iinc (pc := 305) (v := (nI (wv + 1))) (lv' := [(11, .int (nI (wv + 1))), (10, .int (bo ||| 0)), (14, .int 0), (13, .int 0), (12, .int 1), (9, .int (nI 0)), (8, .int (bv_AW a9)), (7, .int (nI a9)), (6, .int y9), (5, .int (nI k)), (4, .int (nI (1 + np0))), (3, .int md), (2, .int (nI pn)), (0, .ref x), (1, .int xx)]) hx hb dL_build_305 hl (k := 4) rfl (nI_1 wv) (by decide) rfl (fun ls hl => ?_)
                                          refine lv_goto (pc := 308) (tgt := 160) hx hb dL_build_308 (by decide) ?_
                                          exact ih (wv + 1) (bo ||| 0) (by omega) (by omega) (by rw [bv_bo, ← hbo, hP9, hQ9]; rfl) H _ hP hD hS ls (lv_sub hl [0, 1, 5, 6, 7, 8, 9, 10, 11, 12, 13, 14] rfl)
                                        · exact absurd c291_73 (by decide)
                                      · exact absurd c214_72 (by decide)
                                · refine lv_iload (pc := 202) hx hb dL_build_202 (lv_at hl 4 rfl) ?_
                                  refine lv_if_ne (pc := 204) (tgt := 225) hx hb dL_build_204 (by decide) (fun c204_74 => ?_) (fun c204_74 => ?_)
                                  · refine lv_iload (pc := 225) hx hb dL_build_225 (lv_at hl 4 rfl) ?_
                                    refine lv_iconst (pc := 227) (v := 1) hx hb dL_build_227 (by decide) ?_
                                    refine lv_icmp_ne (pc := 228) (tgt := 249) hx hb dL_build_228 (by decide) (fun c228_75 => ?_) (fun c228_75 => ?_)
                                    · exact absurd c228_75 (by decide)
                                    · refine lv_iload (pc := 231) hx hb dL_build_231 (lv_at hl 1 rfl) ?_
                                      refine lv_if_ne (pc := 233) (tgt := 241) hx hb dL_build_233 (by decide) (fun c233_76 => ?_) (fun c233_76 => ?_)
                                      · refine lv_iconst (pc := 241) (v := 1) hx hb dL_build_241 (by decide) ?_
                                        refine lv_goto (pc := 242) (tgt := 285) hx hb dL_build_242 (by decide) ?_
                                        refine lv_istore (pc := 285) (lv' := [(14, .int 1), (13, .int 0), (12, .int 1), (11, .int (nI wv)), (10, .int bo), (9, .int (nI 1)), (8, .int (bv_AW a9)), (7, .int (nI a9)), (6, .int y9), (5, .int (nI k)), (4, .int (nI (1 + np0))), (3, .int md), (2, .int (nI pn)), (0, .ref x), (1, .int xx)]) hx hb dL_build_285 hl (by decide) rfl (fun ls hl => ?_)
                                        refine lv_iload (pc := 287) hx hb dL_build_287 (lv_at hl 4 rfl) ?_
                                        refine lv_iload (pc := 289) hx hb dL_build_289 (lv_at hl 0 rfl) ?_
                                        refine lv_if_eq (pc := 291) (tgt := 301) hx hb dL_build_291 (by decide) (fun c291_77 => ?_) (fun c291_77 => ?_)
                                        · exact absurd c291_77 (by decide)
                                        · refine lv_iconst (pc := 294) (v := 1) hx hb dL_build_294 (by decide) ?_
                                          refine lv_iload (pc := 295) hx hb dL_build_295 (lv_at hl 3 rfl) ?_
                                          refine lv_ishl (pc := 297) hx hb dL_build_297 ?_
                                          refine lv_goto (pc := 298) (tgt := 302) hx hb dL_build_298 (by decide) ?_
                                          refine lv_ior (pc := 302) hx hb dL_build_302 ?_
                                          refine lv_istore (pc := 303) (lv' := [(10, .int (bo ||| (1 <<< ((nI wv) &&& 31)))), (14, .int 1), (13, .int 0), (12, .int 1), (11, .int (nI wv)), (9, .int (nI 1)), (8, .int (bv_AW a9)), (7, .int (nI a9)), (6, .int y9), (5, .int (nI k)), (4, .int (nI (1 + np0))), (3, .int md), (2, .int (nI pn)), (0, .ref x), (1, .int xx)]) hx hb dL_build_303 hl (by decide) rfl (fun ls hl => ?_)
                                          refine lv_iinc (pc := 305) (v := (nI (wv + 1))) (lv' := [(11, .int (nI (wv + 1))), (10, .int (bo ||| (1 <<< ((nI wv) &&& 31)))), (14, .int 1), (13, .int 0), (12, .int 1), (9, .int (nI 1)), (8, .int (bv_AW a9)), (7, .int (nI a9)), (6, .int y9), (5, .int (nI k)), (4, .int (nI (1 + np0))), (3, .int md), (2, .int (nI pn)), (0, .ref x), (1, .int xx)]) hx hb dL_build_305 hl (k := 4) rfl (nI_1 wv) (by decide) rfl (fun ls hl => ?_)
                                          refine lv_goto (pc := 308) (tgt := 160) hx hb dL_build_308 (by decide) ?_
                                          exact ih (wv + 1) (bo ||| (1 <<< ((nI wv) &&& 31))) (by omega) (by omega) (by rw [bv_bo, ← hbo, hP9, hQ9]; rfl) H _ hP hD hS ls (lv_sub hl [0, 1, 5, 6, 7, 8, 9, 10, 11, 12, 13, 14] rfl)
                                      · exact absurd c233_76 (by decide)
                                  · exact absurd c204_74 (by decide)
                                · refine lv_iload (pc := 202) hx hb dL_build_202 (lv_at hl 4 rfl) ?_
                                  refine lv_if_ne (pc := 204) (tgt := 225) hx hb dL_build_204 (by decide) (fun c204_78 => ?_) (fun c204_78 => ?_)
                                  · refine lv_iload (pc := 225) hx hb dL_build_225 (lv_at hl 4 rfl) ?_
                                    refine lv_iconst (pc := 227) (v := 1) hx hb dL_build_227 (by decide) ?_
                                    refine lv_icmp_ne (pc := 228) (tgt := 249) hx hb dL_build_228 (by decide) (fun c228_79 => ?_) (fun c228_79 => ?_)
                                    · refine lv_iload (pc := 249) hx hb dL_build_249 (lv_at hl 4 rfl) ?_
                                      refine lv_iconst (pc := 251) (v := 2) hx hb dL_build_251 (by decide) ?_
                                      refine lv_icmp_ne (pc := 252) (tgt := 273) hx hb dL_build_252 (by decide) (fun c252_80 => ?_) (fun c252_80 => ?_)
                                      · exact absurd c252_80 (by decide)
                                      · refine lv_iload (pc := 255) hx hb dL_build_255 (lv_at hl 1 rfl) ?_
                                        refine lv_if_ne (pc := 257) (tgt := 265) hx hb dL_build_257 (by decide) (fun c257_81 => ?_) (fun c257_81 => ?_)
                                        · refine lv_iconst (pc := 265) (v := 1) hx hb dL_build_265 (by decide) ?_
                                          refine lv_goto (pc := 266) (tgt := 285) hx hb dL_build_266 (by decide) ?_
                                          refine lv_istore (pc := 285) (lv' := [(14, .int 1), (13, .int 0), (12, .int 1), (11, .int (nI wv)), (10, .int bo), (9, .int (nI 2)), (8, .int (bv_AW a9)), (7, .int (nI a9)), (6, .int y9), (5, .int (nI k)), (4, .int (nI (1 + np0))), (3, .int md), (2, .int (nI pn)), (0, .ref x), (1, .int xx)]) hx hb dL_build_285 hl (by decide) rfl (fun ls hl => ?_)
                                          refine lv_iload (pc := 287) hx hb dL_build_287 (lv_at hl 4 rfl) ?_
                                          refine lv_iload (pc := 289) hx hb dL_build_289 (lv_at hl 0 rfl) ?_
                                          refine lv_if_eq (pc := 291) (tgt := 301) hx hb dL_build_291 (by decide) (fun c291_82 => ?_) (fun c291_82 => ?_)
                                          · exact absurd c291_82 (by decide)
                                          · refine lv_iconst (pc := 294) (v := 1) hx hb dL_build_294 (by decide) ?_
                                            refine lv_iload (pc := 295) hx hb dL_build_295 (lv_at hl 3 rfl) ?_
                                            refine lv_ishl (pc := 297) hx hb dL_build_297 ?_
                                            refine lv_goto (pc := 298) (tgt := 302) hx hb dL_build_298 (by decide) ?_
                                            refine lv_ior (pc := 302) hx hb dL_build_302 ?_
                                            refine lv_istore (pc := 303) (lv' := [(10, .int (bo ||| (1 <<< ((nI wv) &&& 31)))), (14, .int 1), (13, .int 0), (12, .int 1), (11, .int (nI wv)), (9, .int (nI 2)), (8, .int (bv_AW a9)), (7, .int (nI a9)), (6, .int y9), (5, .int (nI k)), (4, .int (nI (1 + np0))), (3, .int md), (2, .int (nI pn)), (0, .ref x), (1, .int xx)]) hx hb dL_build_303 hl (by decide) rfl (fun ls hl => ?_)
                                            refine lv_iinc (pc := 305) (v := (nI (wv + 1))) (lv' := [(11, .int (nI (wv + 1))), (10, .int (bo ||| (1 <<< ((nI wv) &&& 31)))), (14, .int 1), (13, .int 0), (12, .int 1), (9, .int (nI 2)), (8, .int (bv_AW a9)), (7, .int (nI a9)), (6, .int y9), (5, .int (nI k)), (4, .int (nI (1 + np0))), (3, .int md), (2, .int (nI pn)), (0, .ref x), (1, .int xx)]) hx hb dL_build_305 hl (k := 4) rfl (nI_1 wv) (by decide) rfl (fun ls hl => ?_)
                                            refine lv_goto (pc := 308) (tgt := 160) hx hb dL_build_308 (by decide) ?_
                                            exact ih (wv + 1) (bo ||| (1 <<< ((nI wv) &&& 31))) (by omega) (by omega) (by rw [bv_bo, ← hbo, hP9, hQ9]; rfl) H _ hP hD hS ls (lv_sub hl [0, 1, 5, 6, 7, 8, 9, 10, 11, 12, 13, 14] rfl)
                                        · exact absurd c257_81 (by decide)
                                    · exact absurd c228_79 (by decide)
                                  · exact absurd c204_78 (by decide)
                                · refine lv_iload (pc := 202) hx hb dL_build_202 (lv_at hl 4 rfl) ?_
                                  refine lv_if_ne (pc := 204) (tgt := 225) hx hb dL_build_204 (by decide) (fun c204_83 => ?_) (fun c204_83 => ?_)
                                  · refine lv_iload (pc := 225) hx hb dL_build_225 (lv_at hl 4 rfl) ?_
                                    refine lv_iconst (pc := 227) (v := 1) hx hb dL_build_227 (by decide) ?_
                                    refine lv_icmp_ne (pc := 228) (tgt := 249) hx hb dL_build_228 (by decide) (fun c228_84 => ?_) (fun c228_84 => ?_)
                                    · refine lv_iload (pc := 249) hx hb dL_build_249 (lv_at hl 4 rfl) ?_
                                      refine lv_iconst (pc := 251) (v := 2) hx hb dL_build_251 (by decide) ?_
                                      refine lv_icmp_ne (pc := 252) (tgt := 273) hx hb dL_build_252 (by decide) (fun c252_85 => ?_) (fun c252_85 => ?_)
                                      · refine lv_iload (pc := 273) hx hb dL_build_273 (lv_at hl 1 rfl) ?_
                                        refine lv_iload (pc := 275) hx hb dL_build_275 (lv_at hl 0 rfl) ?_
                                        refine lv_icmp_ne (pc := 277) (tgt := 284) hx hb dL_build_277 (by decide) (fun c277_86 => ?_) (fun c277_86 => ?_)
                                        · refine lv_iconst (pc := 284) (v := 0) hx hb dL_build_284 (by decide) ?_
                                          refine lv_istore (pc := 285) (lv' := [(14, .int 0), (13, .int 0), (12, .int 1), (11, .int (nI wv)), (10, .int bo), (9, .int (nI 3)), (8, .int (bv_AW a9)), (7, .int (nI a9)), (6, .int y9), (5, .int (nI k)), (4, .int (nI (1 + np0))), (3, .int md), (2, .int (nI pn)), (0, .ref x), (1, .int xx)]) hx hb dL_build_285 hl (by decide) rfl (fun ls hl => ?_)
                                          refine lv_iload (pc := 287) hx hb dL_build_287 (lv_at hl 4 rfl) ?_
                                          refine lv_iload (pc := 289) hx hb dL_build_289 (lv_at hl 0 rfl) ?_
                                          refine lv_if_eq (pc := 291) (tgt := 301) hx hb dL_build_291 (by decide) (fun c291_87 => ?_) (fun c291_87 => ?_)
                                          · refine lv_iconst (pc := 301) (v := 0) hx hb dL_build_301 (by decide) ?_
                                            refine lv_ior (pc := 302) hx hb dL_build_302 ?_
                                            refine lv_istore (pc := 303) (lv' := [(10, .int (bo ||| 0)), (14, .int 0), (13, .int 0), (12, .int 1), (11, .int (nI wv)), (9, .int (nI 3)), (8, .int (bv_AW a9)), (7, .int (nI a9)), (6, .int y9), (5, .int (nI k)), (4, .int (nI (1 + np0))), (3, .int md), (2, .int (nI pn)), (0, .ref x), (1, .int xx)]) hx hb dL_build_303 hl (by decide) rfl (fun ls hl => ?_)
                                            refine lv_iinc (pc := 305) (v := (nI (wv + 1))) (lv' := [(11, .int (nI (wv + 1))), (10, .int (bo ||| 0)), (14, .int 0), (13, .int 0), (12, .int 1), (9, .int (nI 3)), (8, .int (bv_AW a9)), (7, .int (nI a9)), (6, .int y9), (5, .int (nI k)), (4, .int (nI (1 + np0))), (3, .int md), (2, .int (nI pn)), (0, .ref x), (1, .int xx)]) hx hb dL_build_305 hl (k := 4) rfl (nI_1 wv) (by decide) rfl (fun ls hl => ?_)
                                            refine lv_goto (pc := 308) (tgt := 160) hx hb dL_build_308 (by decide) ?_
                                            exact ih (wv + 1) (bo ||| 0) (by omega) (by omega) (by rw [bv_bo, ← hbo, hP9, hQ9]; rfl) H _ hP hD hS ls (lv_sub hl [0, 1, 5, 6, 7, 8, 9, 10, 11, 12, 13, 14] rfl)
                                          · exact absurd c291_87 (by decide)
                                        · exact absurd c277_86 (by decide)
                                      · exact absurd c252_85 (by decide)
                                    · exact absurd c228_84 (by decide)
                                  · exact absurd c204_83 (by decide)
                              · have hQ9 : bv_has (bv_AW a9) (nI wv) = true := decide_eq_true c192_69
                                refine lv_iconst (pc := 195) (v := 1) hx hb dL_build_195 (by decide) ?_
                                refine lv_goto (pc := 196) (tgt := 200) hx hb dL_build_196 (by decide) ?_
                                refine lv_istore (pc := 200) (lv' := [(13, .int 1), (12, .int 1), (11, .int (nI wv)), (10, .int bo), (9, .int (nI kd)), (8, .int (bv_AW a9)), (7, .int (nI a9)), (6, .int y9), (5, .int (nI k)), (4, .int (nI (1 + np0))), (3, .int md), (2, .int (nI pn)), (0, .ref x), (1, .int xx)]) hx hb dL_build_200 hl (by decide) rfl (fun ls hl => ?_)
                                rcases (show kd = 0 ∨ kd = 1 ∨ kd = 2 ∨ kd = 3 by omega) with rfl | rfl | rfl | rfl
                                · refine lv_iload (pc := 202) hx hb dL_build_202 (lv_at hl 4 rfl) ?_
                                  refine lv_if_ne (pc := 204) (tgt := 225) hx hb dL_build_204 (by decide) (fun c204_88 => ?_) (fun c204_88 => ?_)
                                  · exact absurd c204_88 (by decide)
                                  · refine lv_iload (pc := 207) hx hb dL_build_207 (lv_at hl 1 rfl) ?_
                                    refine lv_if_eq (pc := 209) (tgt := 221) hx hb dL_build_209 (by decide) (fun c209_89 => ?_) (fun c209_89 => ?_)
                                    · exact absurd c209_89 (by decide)
                                    · refine lv_iload (pc := 212) hx hb dL_build_212 (lv_at hl 0 rfl) ?_
                                      refine lv_if_eq (pc := 214) (tgt := 221) hx hb dL_build_214 (by decide) (fun c214_90 => ?_) (fun c214_90 => ?_)
                                      · exact absurd c214_90 (by decide)
                                      · refine lv_iconst (pc := 217) (v := 1) hx hb dL_build_217 (by decide) ?_
                                        refine lv_goto (pc := 218) (tgt := 285) hx hb dL_build_218 (by decide) ?_
                                        refine lv_istore (pc := 285) (lv' := [(14, .int 1), (13, .int 1), (12, .int 1), (11, .int (nI wv)), (10, .int bo), (9, .int (nI 0)), (8, .int (bv_AW a9)), (7, .int (nI a9)), (6, .int y9), (5, .int (nI k)), (4, .int (nI (1 + np0))), (3, .int md), (2, .int (nI pn)), (0, .ref x), (1, .int xx)]) hx hb dL_build_285 hl (by decide) rfl (fun ls hl => ?_)
                                        refine lv_iload (pc := 287) hx hb dL_build_287 (lv_at hl 4 rfl) ?_
                                        refine lv_iload (pc := 289) hx hb dL_build_289 (lv_at hl 0 rfl) ?_
                                        refine lv_if_eq (pc := 291) (tgt := 301) hx hb dL_build_291 (by decide) (fun c291_91 => ?_) (fun c291_91 => ?_)
                                        · exact absurd c291_91 (by decide)
                                        · refine lv_iconst (pc := 294) (v := 1) hx hb dL_build_294 (by decide) ?_
                                          refine lv_iload (pc := 295) hx hb dL_build_295 (lv_at hl 3 rfl) ?_
                                          refine lv_ishl (pc := 297) hx hb dL_build_297 ?_
                                          refine lv_goto (pc := 298) (tgt := 302) hx hb dL_build_298 (by decide) ?_
                                          refine lv_ior (pc := 302) hx hb dL_build_302 ?_
                                          refine lv_istore (pc := 303) (lv' := [(10, .int (bo ||| (1 <<< ((nI wv) &&& 31)))), (14, .int 1), (13, .int 1), (12, .int 1), (11, .int (nI wv)), (9, .int (nI 0)), (8, .int (bv_AW a9)), (7, .int (nI a9)), (6, .int y9), (5, .int (nI k)), (4, .int (nI (1 + np0))), (3, .int md), (2, .int (nI pn)), (0, .ref x), (1, .int xx)]) hx hb dL_build_303 hl (by decide) rfl (fun ls hl => ?_)
                                          refine lv_iinc (pc := 305) (v := (nI (wv + 1))) (lv' := [(11, .int (nI (wv + 1))), (10, .int (bo ||| (1 <<< ((nI wv) &&& 31)))), (14, .int 1), (13, .int 1), (12, .int 1), (9, .int (nI 0)), (8, .int (bv_AW a9)), (7, .int (nI a9)), (6, .int y9), (5, .int (nI k)), (4, .int (nI (1 + np0))), (3, .int md), (2, .int (nI pn)), (0, .ref x), (1, .int xx)]) hx hb dL_build_305 hl (k := 4) rfl (nI_1 wv) (by decide) rfl (fun ls hl => ?_)
                                          refine lv_goto (pc := 308) (tgt := 160) hx hb dL_build_308 (by decide) ?_
                                          exact ih (wv + 1) (bo ||| (1 <<< ((nI wv) &&& 31))) (by omega) (by omega) (by rw [bv_bo, ← hbo, hP9, hQ9]; rfl) H _ hP hD hS ls (lv_sub hl [0, 1, 5, 6, 7, 8, 9, 10, 11, 12, 13, 14] rfl)
                                · refine lv_iload (pc := 202) hx hb dL_build_202 (lv_at hl 4 rfl) ?_
                                  refine lv_if_ne (pc := 204) (tgt := 225) hx hb dL_build_204 (by decide) (fun c204_92 => ?_) (fun c204_92 => ?_)
                                  · refine lv_iload (pc := 225) hx hb dL_build_225 (lv_at hl 4 rfl) ?_
                                    refine lv_iconst (pc := 227) (v := 1) hx hb dL_build_227 (by decide) ?_
                                    refine lv_icmp_ne (pc := 228) (tgt := 249) hx hb dL_build_228 (by decide) (fun c228_93 => ?_) (fun c228_93 => ?_)
                                    · exact absurd c228_93 (by decide)
                                    · refine lv_iload (pc := 231) hx hb dL_build_231 (lv_at hl 1 rfl) ?_
                                      refine lv_if_ne (pc := 233) (tgt := 241) hx hb dL_build_233 (by decide) (fun c233_94 => ?_) (fun c233_94 => ?_)
                                      · refine lv_iconst (pc := 241) (v := 1) hx hb dL_build_241 (by decide) ?_
                                        refine lv_goto (pc := 242) (tgt := 285) hx hb dL_build_242 (by decide) ?_
                                        refine lv_istore (pc := 285) (lv' := [(14, .int 1), (13, .int 1), (12, .int 1), (11, .int (nI wv)), (10, .int bo), (9, .int (nI 1)), (8, .int (bv_AW a9)), (7, .int (nI a9)), (6, .int y9), (5, .int (nI k)), (4, .int (nI (1 + np0))), (3, .int md), (2, .int (nI pn)), (0, .ref x), (1, .int xx)]) hx hb dL_build_285 hl (by decide) rfl (fun ls hl => ?_)
                                        refine lv_iload (pc := 287) hx hb dL_build_287 (lv_at hl 4 rfl) ?_
                                        refine lv_iload (pc := 289) hx hb dL_build_289 (lv_at hl 0 rfl) ?_
                                        refine lv_if_eq (pc := 291) (tgt := 301) hx hb dL_build_291 (by decide) (fun c291_95 => ?_) (fun c291_95 => ?_)
                                        · exact absurd c291_95 (by decide)
                                        · refine lv_iconst (pc := 294) (v := 1) hx hb dL_build_294 (by decide) ?_
                                          refine lv_iload (pc := 295) hx hb dL_build_295 (lv_at hl 3 rfl) ?_
                                          refine lv_ishl (pc := 297) hx hb dL_build_297 ?_
                                          refine lv_goto (pc := 298) (tgt := 302) hx hb dL_build_298 (by decide) ?_
                                          refine lv_ior (pc := 302) hx hb dL_build_302 ?_
                                          refine lv_istore (pc := 303) (lv' := [(10, .int (bo ||| (1 <<< ((nI wv) &&& 31)))), (14, .int 1), (13, .int 1), (12, .int 1), (11, .int (nI wv)), (9, .int (nI 1)), (8, .int (bv_AW a9)), (7, .int (nI a9)), (6, .int y9), (5, .int (nI k)), (4, .int (nI (1 + np0))), (3, .int md), (2, .int (nI pn)), (0, .ref x), (1, .int xx)]) hx hb dL_build_303 hl (by decide) rfl (fun ls hl => ?_)
                                          refine lv_iinc (pc := 305) (v := (nI (wv + 1))) (lv' := [(11, .int (nI (wv + 1))), (10, .int (bo ||| (1 <<< ((nI wv) &&& 31)))), (14, .int 1), (13, .int 1), (12, .int 1), (9, .int (nI 1)), (8, .int (bv_AW a9)), (7, .int (nI a9)), (6, .int y9), (5, .int (nI k)), (4, .int (nI (1 + np0))), (3, .int md), (2, .int (nI pn)), (0, .ref x), (1, .int xx)]) hx hb dL_build_305 hl (k := 4) rfl (nI_1 wv) (by decide) rfl (fun ls hl => ?_)
                                          refine lv_goto (pc := 308) (tgt := 160) hx hb dL_build_308 (by decide) ?_
                                          exact ih (wv + 1) (bo ||| (1 <<< ((nI wv) &&& 31))) (by omega) (by omega) (by rw [bv_bo, ← hbo, hP9, hQ9]; rfl) H _ hP hD hS ls (lv_sub hl [0, 1, 5, 6, 7, 8, 9, 10, 11, 12, 13, 14] rfl)
                                      · exact absurd c233_94 (by decide)
                                  · exact absurd c204_92 (by decide)
                                · refine lv_iload (pc := 202) hx hb dL_build_202 (lv_at hl 4 rfl) ?_
                                  refine lv_if_ne (pc := 204) (tgt := 225) hx hb dL_build_204 (by decide) (fun c204_96 => ?_) (fun c204_96 => ?_)
                                  · refine lv_iload (pc := 225) hx hb dL_build_225 (lv_at hl 4 rfl) ?_
                                    refine lv_iconst (pc := 227) (v := 1) hx hb dL_build_227 (by decide) ?_
                                    refine lv_icmp_ne (pc := 228) (tgt := 249) hx hb dL_build_228 (by decide) (fun c228_97 => ?_) (fun c228_97 => ?_)
                                    · refine lv_iload (pc := 249) hx hb dL_build_249 (lv_at hl 4 rfl) ?_
                                      refine lv_iconst (pc := 251) (v := 2) hx hb dL_build_251 (by decide) ?_
                                      refine lv_icmp_ne (pc := 252) (tgt := 273) hx hb dL_build_252 (by decide) (fun c252_98 => ?_) (fun c252_98 => ?_)
                                      · exact absurd c252_98 (by decide)
                                      · refine lv_iload (pc := 255) hx hb dL_build_255 (lv_at hl 1 rfl) ?_
                                        refine lv_if_ne (pc := 257) (tgt := 265) hx hb dL_build_257 (by decide) (fun c257_99 => ?_) (fun c257_99 => ?_)
                                        · refine lv_iconst (pc := 265) (v := 1) hx hb dL_build_265 (by decide) ?_
                                          refine lv_goto (pc := 266) (tgt := 285) hx hb dL_build_266 (by decide) ?_
                                          refine lv_istore (pc := 285) (lv' := [(14, .int 1), (13, .int 1), (12, .int 1), (11, .int (nI wv)), (10, .int bo), (9, .int (nI 2)), (8, .int (bv_AW a9)), (7, .int (nI a9)), (6, .int y9), (5, .int (nI k)), (4, .int (nI (1 + np0))), (3, .int md), (2, .int (nI pn)), (0, .ref x), (1, .int xx)]) hx hb dL_build_285 hl (by decide) rfl (fun ls hl => ?_)
                                          refine lv_iload (pc := 287) hx hb dL_build_287 (lv_at hl 4 rfl) ?_
                                          refine lv_iload (pc := 289) hx hb dL_build_289 (lv_at hl 0 rfl) ?_
                                          refine lv_if_eq (pc := 291) (tgt := 301) hx hb dL_build_291 (by decide) (fun c291_100 => ?_) (fun c291_100 => ?_)
                                          · exact absurd c291_100 (by decide)
                                          · refine lv_iconst (pc := 294) (v := 1) hx hb dL_build_294 (by decide) ?_
                                            refine lv_iload (pc := 295) hx hb dL_build_295 (lv_at hl 3 rfl) ?_
                                            refine lv_ishl (pc := 297) hx hb dL_build_297 ?_
                                            refine lv_goto (pc := 298) (tgt := 302) hx hb dL_build_298 (by decide) ?_
                                            refine lv_ior (pc := 302) hx hb dL_build_302 ?_
                                            refine lv_istore (pc := 303) (lv' := [(10, .int (bo ||| (1 <<< ((nI wv) &&& 31)))), (14, .int 1), (13, .int 1), (12, .int 1), (11, .int (nI wv)), (9, .int (nI 2)), (8, .int (bv_AW a9)), (7, .int (nI a9)), (6, .int y9), (5, .int (nI k)), (4, .int (nI (1 + np0))), (3, .int md), (2, .int (nI pn)), (0, .ref x), (1, .int xx)]) hx hb dL_build_303 hl (by decide) rfl (fun ls hl => ?_)
                                            refine lv_iinc (pc := 305) (v := (nI (wv + 1))) (lv' := [(11, .int (nI (wv + 1))), (10, .int (bo ||| (1 <<< ((nI wv) &&& 31)))), (14, .int 1), (13, .int 1), (12, .int 1), (9, .int (nI 2)), (8, .int (bv_AW a9)), (7, .int (nI a9)), (6, .int y9), (5, .int (nI k)), (4, .int (nI (1 + np0))), (3, .int md), (2, .int (nI pn)), (0, .ref x), (1, .int xx)]) hx hb dL_build_305 hl (k := 4) rfl (nI_1 wv) (by decide) rfl (fun ls hl => ?_)
                                            refine lv_goto (pc := 308) (tgt := 160) hx hb dL_build_308 (by decide) ?_
                                            exact ih (wv + 1) (bo ||| (1 <<< ((nI wv) &&& 31))) (by omega) (by omega) (by rw [bv_bo, ← hbo, hP9, hQ9]; rfl) H _ hP hD hS ls (lv_sub hl [0, 1, 5, 6, 7, 8, 9, 10, 11, 12, 13, 14] rfl)
                                        · exact absurd c257_99 (by decide)
                                    · exact absurd c228_97 (by decide)
                                  · exact absurd c204_96 (by decide)
                                · refine lv_iload (pc := 202) hx hb dL_build_202 (lv_at hl 4 rfl) ?_
                                  refine lv_if_ne (pc := 204) (tgt := 225) hx hb dL_build_204 (by decide) (fun c204_101 => ?_) (fun c204_101 => ?_)
                                  · refine lv_iload (pc := 225) hx hb dL_build_225 (lv_at hl 4 rfl) ?_
                                    refine lv_iconst (pc := 227) (v := 1) hx hb dL_build_227 (by decide) ?_
                                    refine lv_icmp_ne (pc := 228) (tgt := 249) hx hb dL_build_228 (by decide) (fun c228_102 => ?_) (fun c228_102 => ?_)
                                    · refine lv_iload (pc := 249) hx hb dL_build_249 (lv_at hl 4 rfl) ?_
                                      refine lv_iconst (pc := 251) (v := 2) hx hb dL_build_251 (by decide) ?_
                                      refine lv_icmp_ne (pc := 252) (tgt := 273) hx hb dL_build_252 (by decide) (fun c252_103 => ?_) (fun c252_103 => ?_)
                                      · refine lv_iload (pc := 273) hx hb dL_build_273 (lv_at hl 1 rfl) ?_
                                        refine lv_iload (pc := 275) hx hb dL_build_275 (lv_at hl 0 rfl) ?_
                                        refine lv_icmp_ne (pc := 277) (tgt := 284) hx hb dL_build_277 (by decide) (fun c277_104 => ?_) (fun c277_104 => ?_)
                                        · exact absurd c277_104 (by decide)
                                        · refine lv_iconst (pc := 280) (v := 1) hx hb dL_build_280 (by decide) ?_
                                          refine lv_goto (pc := 281) (tgt := 285) hx hb dL_build_281 (by decide) ?_
                                          refine lv_istore (pc := 285) (lv' := [(14, .int 1), (13, .int 1), (12, .int 1), (11, .int (nI wv)), (10, .int bo), (9, .int (nI 3)), (8, .int (bv_AW a9)), (7, .int (nI a9)), (6, .int y9), (5, .int (nI k)), (4, .int (nI (1 + np0))), (3, .int md), (2, .int (nI pn)), (0, .ref x), (1, .int xx)]) hx hb dL_build_285 hl (by decide) rfl (fun ls hl => ?_)
                                          refine lv_iload (pc := 287) hx hb dL_build_287 (lv_at hl 4 rfl) ?_
                                          refine lv_iload (pc := 289) hx hb dL_build_289 (lv_at hl 0 rfl) ?_
                                          refine lv_if_eq (pc := 291) (tgt := 301) hx hb dL_build_291 (by decide) (fun c291_105 => ?_) (fun c291_105 => ?_)
                                          · exact absurd c291_105 (by decide)
                                          · refine lv_iconst (pc := 294) (v := 1) hx hb dL_build_294 (by decide) ?_
                                            refine lv_iload (pc := 295) hx hb dL_build_295 (lv_at hl 3 rfl) ?_
                                            refine lv_ishl (pc := 297) hx hb dL_build_297 ?_
                                            refine lv_goto (pc := 298) (tgt := 302) hx hb dL_build_298 (by decide) ?_
                                            refine lv_ior (pc := 302) hx hb dL_build_302 ?_
                                            refine lv_istore (pc := 303) (lv' := [(10, .int (bo ||| (1 <<< ((nI wv) &&& 31)))), (14, .int 1), (13, .int 1), (12, .int 1), (11, .int (nI wv)), (9, .int (nI 3)), (8, .int (bv_AW a9)), (7, .int (nI a9)), (6, .int y9), (5, .int (nI k)), (4, .int (nI (1 + np0))), (3, .int md), (2, .int (nI pn)), (0, .ref x), (1, .int xx)]) hx hb dL_build_303 hl (by decide) rfl (fun ls hl => ?_)
                                            refine lv_iinc (pc := 305) (v := (nI (wv + 1))) (lv' := [(11, .int (nI (wv + 1))), (10, .int (bo ||| (1 <<< ((nI wv) &&& 31)))), (14, .int 1), (13, .int 1), (12, .int 1), (9, .int (nI 3)), (8, .int (bv_AW a9)), (7, .int (nI a9)), (6, .int y9), (5, .int (nI k)), (4, .int (nI (1 + np0))), (3, .int md), (2, .int (nI pn)), (0, .ref x), (1, .int xx)]) hx hb dL_build_305 hl (k := 4) rfl (nI_1 wv) (by decide) rfl (fun ls hl => ?_)
                                            refine lv_goto (pc := 308) (tgt := 160) hx hb dL_build_308 (by decide) ?_
                                            exact ih (wv + 1) (bo ||| (1 <<< ((nI wv) &&& 31))) (by omega) (by omega) (by rw [bv_bo, ← hbo, hP9, hQ9]; rfl) H _ hP hD hS ls (lv_sub hl [0, 1, 5, 6, 7, 8, 9, 10, 11, 12, 13, 14] rfl)
                                      · exact absurd c252_103 (by decide)
                                    · exact absurd c228_102 (by decide)
                                  · exact absurd c204_101 (by decide)
                      exact loop_160 (16 - 0 + 1) 0 0 (Nat.lt_succ_self _) (by omega) rfl H _ hP hD hS ls (lv_sub hl [0, 1, 2, 3, 4, 5, 6, 7, 8, 9, 10, 11] rfl)
                    · exact absurd ((nI_eq (b := 0) (by omega) (by decide)).mp c135_22) hk0
                  · refine lv_ldc (pc := 115) hx hb hown hw1 dL_build_115 ?_
                    refine lv_iload (pc := 117) hx hb dL_build_117 (lv_at hl 1 rfl) ?_
                    refine lv_isub (pc := 119) hx hb dL_build_119 ?_
                    rw [show (65535 - (bv_AW a9)) = (bv_not (bv_AW a9)) from bv_AWn a9 ha9]
                    refine lv_istore (pc := 120) (lv' := [(8, .int (bv_not (bv_AW a9))), (9, .int (nI 16)), (7, .int (nI a9)), (6, .int y9), (5, .int (nI k)), (4, .int (nI (1 + np0))), (3, .int md), (2, .int (nI pn)), (0, .ref x), (1, .int xx)]) hx hb dL_build_120 hl (by decide) rfl (fun ls hl => ?_)
                    refine lv_aload_n (pc := 122) hx hb dL_build_122 rfl (lv_at hl 8 rfl) ?_
                    have hPc := hP.sub (ws' := [(x, .inr (3, [.ref xp, .ref xb, .ref xm])), (xp, .inr (2, [.ref ap, .int (nI ((pn + 1) + 1))])), (ap, .inl (cI, 12, .inl (upd f1 (pn + 1) (bv_AW a9)))), (xb, .inr (0, [.ref as, .ref ar, .ref am, .int (nI bn)])), (as, .inl (cI, 10, .inl bs)), (ar, .inl (cI, 10, .inl br)), (am, .inl (cI, 1024, .inl mt)), (xm, .inr (1, [.ref al, .ref ak])), (al, .inl (cI, 16, .inl lv)), (ak, .inl (cI, 16, .inl ks))]) [0, 1, 2, 3, 4, 5, 6, 7, 8, 9] rfl
                    have hDc := hD.sub (ws' := [(x, .inr (3, [.ref xp, .ref xb, .ref xm])), (xp, .inr (2, [.ref ap, .int (nI ((pn + 1) + 1))])), (ap, .inl (cI, 12, .inl (upd f1 (pn + 1) (bv_AW a9)))), (xb, .inr (0, [.ref as, .ref ar, .ref am, .int (nI bn)])), (as, .inl (cI, 10, .inl bs)), (ar, .inl (cI, 10, .inl br)), (am, .inl (cI, 1024, .inl mt)), (xm, .inr (1, [.ref al, .ref ak])), (al, .inl (cI, 16, .inl lv)), (ak, .inl (cI, 16, .inl ks))]) [0, 1, 2, 3, 4, 5, 6, 7, 8, 9] (by decide) rfl
                    have hFc := va_free (wc := [(x, .inr (3, [.ref xp, .ref xb, .ref xm])), (xp, .inr (2, [.ref ap, .int (nI ((pn + 1) + 1))])), (ap, .inl (cI, 12, .inl (upd f1 (pn + 1) (bv_AW a9)))), (xb, .inr (0, [.ref as, .ref ar, .ref am, .int (nI bn)])), (as, .inl (cI, 10, .inl bs)), (ar, .inl (cI, 10, .inl br)), (am, .inl (cI, 1024, .inl mt)), (xm, .inr (1, [.ref al, .ref ak])), (al, .inl (cI, 16, .inl lv)), (ak, .inl (cI, 16, .inl ks))]) hD hS hA [0, 1, 2, 3, 4, 5, 6, 7, 8, 9] rfl
                    refine bv_cMi (pc := 123) (E' := (bv_not (bv_AW a9))) (va_runV (As := []) (rest := []) ⟨hx, hb, hml, hown, hts⟩ (m_X3_negate l G cI H.size x xp ap ((pn + 1) + 1) xb as ar am bn xm al ak (upd f1 (pn + 1) (bv_AW a9)) bs br mt lv ks (by omega) hn hM (by omega)) (cwV 0 hts gL_build_X3_negate rfl rfl rfl (by decide +kernel) ⟨Nat.le_of_ble_eq_true rfl, Nat.le_of_ble_eq_true rfl⟩) (bv_pV hE ⟨rfl, hPc, hDc.weaken (fun _ _ _ _ => trivial)⟩ (va_recv hK hP (ci := 3) (q0 := 0) rfl rfl)) rfl rfl hl.1 rfl (lv_room (Nat.le_of_ble_eq_true rfl)) dL_build_123 ⟨Nat.le_of_ble_eq_true rfl, Nat.le_of_ble_eq_true rfl⟩) hS (fun q _ h => hFc q h) hFc (by rw [bv_updS]) (fun t8 H1 locs ht8 hvm8 hB8 hz1 hk1 hS => ?_)
                    have hP1 : va_P G vwCl [(x, .inr (3, [.ref xp, .ref xb, .ref xm])), (xp, .inr (2, [.ref ap, .int (nI ((pn + 1) + 1))])), (ap, .inl (cI, 12, .inl (upd (upd f1 (pn + 1) (bv_AW a9)) (((pn + 1) + 1) - 1) (bv_not ((upd f1 (pn + 1) (bv_AW a9)) (((pn + 1) + 1) - 1)))))), (xb, .inr (0, [.ref as, .ref ar, .ref am, .int (nI bn)])), (as, .inl (cI, 10, .inl bs)), (ar, .inl (cI, 10, .inl br)), (am, .inl (cI, 1024, .inl mt)), (xm, .inr (1, [.ref al, .ref ak])), (al, .inl (cI, 16, .inl lv)), (ak, .inl (cI, 16, .inl ks))] H1 := by rw [← ht8]; exact hB8
                    obtain ⟨hP, hD⟩ := va_join (wr := []) (w1 := [(x, .inr (3, [.ref xp, .ref xb, .ref xm])), (xp, .inr (2, [.ref ap, .int (nI ((pn + 1) + 1))])), (ap, .inl (cI, 12, .inl (upd (upd f1 (pn + 1) (bv_AW a9)) (((pn + 1) + 1) - 1) (bv_not ((upd f1 (pn + 1) (bv_AW a9)) (((pn + 1) + 1) - 1)))))), (xb, .inr (0, [.ref as, .ref ar, .ref am, .int (nI bn)])), (as, .inl (cI, 10, .inl bs)), (ar, .inl (cI, 10, .inl br)), (am, .inl (cI, 1024, .inl mt)), (xm, .inr (1, [.ref al, .ref ak])), (al, .inl (cI, 16, .inl lv)), (ak, .inl (cI, 16, .inl ks))]) hP hD [0, 1, 2, 3, 4, 5, 6, 7, 8, 9] [] rfl rfl (by decide) (by decide) hk1 hFc hP1 (bv_Dm (w0 := [(x, .inr (3, [.ref xp, .ref xb, .ref xm])), (xp, .inr (2, [.ref ap, .int (nI ((pn + 1) + 1))])), (ap, .inl (cI, 12, .inl (upd f1 (pn + 1) (bv_AW a9)))), (xb, .inr (0, [.ref as, .ref ar, .ref am, .int (nI bn)])), (as, .inl (cI, 10, .inl bs)), (ar, .inl (cI, 10, .inl br)), (am, .inl (cI, 1024, .inl mt)), (xm, .inr (1, [.ref al, .ref ak])), (al, .inl (cI, 16, .inl lv)), (ak, .inl (cI, 16, .inl ks))]) [x, xp, ap, xb, as, ar, am, xm, al, ak] rfl rfl hDc.self)
                    have hP : va_P G vwCl [(x, .inr (3, [.ref xp, .ref xb, .ref xm])), (xp, .inr (2, [.ref ap, .int (nI ((pn + 1) + 1))])), (ap, .inl (cI, 12, .inl (upd (upd f1 (pn + 1) (bv_AW a9)) (((pn + 1) + 1) - 1) (bv_not ((upd f1 (pn + 1) (bv_AW a9)) (((pn + 1) + 1) - 1)))))), (xb, .inr (0, [.ref as, .ref ar, .ref am, .int (nI bn)])), (as, .inl (cI, 10, .inl bs)), (ar, .inl (cI, 10, .inl br)), (am, .inl (cI, 1024, .inl mt)), (xm, .inr (1, [.ref al, .ref ak])), (al, .inl (cI, 16, .inl lv)), (ak, .inl (cI, 16, .inl ks))] H1 := hP.sub (ws' := [(x, .inr (3, [.ref xp, .ref xb, .ref xm])), (xp, .inr (2, [.ref ap, .int (nI ((pn + 1) + 1))])), (ap, .inl (cI, 12, .inl (upd (upd f1 (pn + 1) (bv_AW a9)) (((pn + 1) + 1) - 1) (bv_not ((upd f1 (pn + 1) (bv_AW a9)) (((pn + 1) + 1) - 1)))))), (xb, .inr (0, [.ref as, .ref ar, .ref am, .int (nI bn)])), (as, .inl (cI, 10, .inl bs)), (ar, .inl (cI, 10, .inl br)), (am, .inl (cI, 1024, .inl mt)), (xm, .inr (1, [.ref al, .ref ak])), (al, .inl (cI, 16, .inl lv)), (ak, .inl (cI, 16, .inl ks))]) [0, 1, 2, 3, 4, 5, 6, 7, 8, 9] rfl
                    have hD : va_D A [(x, .inr (3, [.ref xp, .ref xb, .ref xm])), (xp, .inr (2, [.ref ap, .int (nI ((pn + 1) + 1))])), (ap, .inl (cI, 12, .inl (upd (upd f1 (pn + 1) (bv_AW a9)) (((pn + 1) + 1) - 1) (bv_not ((upd f1 (pn + 1) (bv_AW a9)) (((pn + 1) + 1) - 1)))))), (xb, .inr (0, [.ref as, .ref ar, .ref am, .int (nI bn)])), (as, .inl (cI, 10, .inl bs)), (ar, .inl (cI, 10, .inl br)), (am, .inl (cI, 1024, .inl mt)), (xm, .inr (1, [.ref al, .ref ak])), (al, .inl (cI, 16, .inl lv)), (ak, .inl (cI, 16, .inl ks))] := hD.sub (ws' := [(x, .inr (3, [.ref xp, .ref xb, .ref xm])), (xp, .inr (2, [.ref ap, .int (nI ((pn + 1) + 1))])), (ap, .inl (cI, 12, .inl (upd (upd f1 (pn + 1) (bv_AW a9)) (((pn + 1) + 1) - 1) (bv_not ((upd f1 (pn + 1) (bv_AW a9)) (((pn + 1) + 1) - 1)))))), (xb, .inr (0, [.ref as, .ref ar, .ref am, .int (nI bn)])), (as, .inl (cI, 10, .inl bs)), (ar, .inl (cI, 10, .inl br)), (am, .inl (cI, 1024, .inl mt)), (xm, .inr (1, [.ref al, .ref ak])), (al, .inl (cI, 16, .inl lv)), (ak, .inl (cI, 16, .inl ks))]) [0, 1, 2, 3, 4, 5, 6, 7, 8, 9] (by decide) rfl
                    generalize H1 = H at hP hS ⊢
                    rw [show (upd (upd f1 (pn + 1) (bv_AW a9)) (((pn + 1) + 1) - 1) (bv_not ((upd f1 (pn + 1) (bv_AW a9)) (((pn + 1) + 1) - 1)))) = (upd f1 (pn + 1) (bv_not (bv_AW a9))) from by rw [bv_updS, bv_updN]] at hP hD
                    refine lv_iload (pc := 126) hx hb dL_build_126 (lv_at hl 0 rfl) ?_
                    refine lv_icmp_eq (pc := 128) (tgt := 133) hx hb dL_build_128 (by decide) (fun c128_108 => ?_) (fun c128_108 => ?_)
                    · refine lv_iload (pc := 133) hx hb dL_build_133 (lv_at hl 4 rfl) ?_
                      refine lv_if_ne (pc := 135) (tgt := 144) hx hb dL_build_135 (by decide) (fun c135_109 => ?_) (fun c135_109 => ?_)
                      · refine lv_iload (pc := 144) hx hb dL_build_144 (lv_at hl 3 rfl) ?_
                        refine lv_iconst (pc := 146) (v := 3) hx hb dL_build_146 (by decide) ?_
                        refine lv_ishr (pc := 147) hx hb dL_build_147 ?_
                        refine lv_iconst (pc := 148) (v := 4) hx hb dL_build_148 (by decide) ?_
                        have hPc := hP.sub (ws' := []) [] rfl
                        refine vp_callSi (pc := 149) (va_Run.run (va_runS (As := [.int (y9 >>> (3 &&& 31)), .int 4]) (rest := []) ⟨hx, hb, hml, hown, hts⟩ (m_L_below l G cI (y9 >>> (3 &&& 31)) 4 (by decide) (by decide)) (va_cwS 2 hts gL_build_L_below rfl rfl rfl (by decide +kernel) ⟨Nat.le_of_ble_eq_true rfl, Nat.le_of_ble_eq_true rfl⟩) (bv_pS hE hPc) rfl rfl hl.1 rfl (lv_room (Nat.le_of_ble_eq_true rfl)) dL_build_149 ⟨Nat.le_of_ble_eq_true rfl, Nat.le_of_ble_eq_true rfl⟩)) (fun r_110 e_111 => ?_)
                        obtain ⟨kd, hkd, rfl⟩ := e_111
                        have hkd : kd < 4 := hkd
                        refine lv_istore (pc := 152) (lv' := [(9, .int (nI kd)), (8, .int (bv_not (bv_AW a9))), (7, .int (nI a9)), (6, .int y9), (5, .int (nI k)), (4, .int (nI (1 + np0))), (3, .int md), (2, .int (nI pn)), (0, .ref x), (1, .int xx)]) hx hb dL_build_152 hl (by decide) rfl (fun ls hl => ?_)
                        refine lv_iconst (pc := 154) (v := 0) hx hb dL_build_154 (by decide) ?_
                        refine lv_istore (pc := 155) (lv' := [(10, .int 0), (9, .int (nI kd)), (8, .int (bv_not (bv_AW a9))), (7, .int (nI a9)), (6, .int y9), (5, .int (nI k)), (4, .int (nI (1 + np0))), (3, .int md), (2, .int (nI pn)), (0, .ref x), (1, .int xx)]) hx hb dL_build_155 hl (by decide) rfl (fun ls hl => ?_)
                        refine lv_iconst (pc := 157) (v := 0) hx hb dL_build_157 (by decide) ?_
                        refine lv_istore (pc := 158) (lv' := [(11, .int 0), (10, .int 0), (9, .int (nI kd)), (8, .int (bv_not (bv_AW a9))), (7, .int (nI a9)), (6, .int y9), (5, .int (nI k)), (4, .int (nI (1 + np0))), (3, .int md), (2, .int (nI pn)), (0, .ref x), (1, .int xx)]) hx hb dL_build_158 hl (by decide) rfl (fun ls hl => ?_)
                        have loop_160 : ∀ (fu9 : Nat) (wv : Nat) (bo : Int32), 16 - wv < fu9 → (wv ≤ 16) → (bo = bv_bo kd md (bv_not (bv_AW a9)) wv) → ∀ (H : Heap) (locs : List Loc), va_P G vwCl [(x, .inr (3, [.ref xp, .ref xb, .ref xm])), (xp, .inr (2, [.ref ap, .int (nI ((pn + 1) + 1))])), (ap, .inl (cI, 12, .inl (upd f1 (pn + 1) (bv_not (bv_AW a9))))), (xb, .inr (0, [.ref as, .ref ar, .ref am, .int (nI bn)])), (as, .inl (cI, 10, .inl bs)), (ar, .inl (cI, 10, .inl br)), (am, .inl (cI, 1024, .inl mt)), (xm, .inr (1, [.ref al, .ref ak])), (al, .inl (cI, 16, .inl lv)), (ak, .inl (cI, 16, .inl ks))] H → va_D A [(x, .inr (3, [.ref xp, .ref xb, .ref xm])), (xp, .inr (2, [.ref ap, .int (nI ((pn + 1) + 1))])), (ap, .inl (cI, 12, .inl (upd f1 (pn + 1) (bv_not (bv_AW a9))))), (xb, .inr (0, [.ref as, .ref ar, .ref am, .int (nI bn)])), (as, .inl (cI, 10, .inl bs)), (ar, .inl (cI, 10, .inl br)), (am, .inl (cI, 1024, .inl mt)), (xm, .inr (1, [.ref al, .ref ak])), (al, .inl (cI, 16, .inl lv)), (ak, .inl (cI, 16, .inl ks))] → va_S A s.heap H locs → ∀ (ls : Array Slot), lv_has ls 15 [(11, .int (nI wv)), (10, .int bo), (9, .int (nI kd)), (8, .int (bv_not (bv_AW a9))), (7, .int (nI a9)), (6, .int y9), (5, .int (nI k)), (4, .int (nI (1 + np0))), (3, .int md), (2, .int (nI pn)), (0, .ref x), (1, .int xx)] → W p l e (headSpec wsL_build ({ frames := 4, cells := 0, slots := 0, locals := 87 })).room s m ([.ref x, .int xx] : List Value).toArray below meth c H locs 0 0 (MQ below (va_Qi (fun (r9 : Int32) (u9 : Int32 × (Nat → Int32)) => r9 = u9.1 ∧ u9.1 &&& 65535 = u9.1 ∧ u9.2 pn = u9.1 ∧ ∀ j, j < pn → u9.2 j = pf j) (fun (u9 : Int32 × (Nat → Int32)) (T9 : State) => va_P G vwCl [(x, .inr (3, [.ref xp, .ref xb, .ref xm])), (xp, .inr (2, [.ref ap, .int (nI (pn + 1))])), (ap, .inl (cI, 12, .inl u9.2)), (xb, .inr (0, [.ref as, .ref ar, .ref am, .int (nI bn)])), (as, .inl (cI, 10, .inl bs)), (ar, .inl (cI, 10, .inl br)), (am, .inl (cI, 1024, .inl mt)), (xm, .inr (1, [.ref al, .ref ak])), (al, .inl (cI, 16, .inl lv)), (ak, .inl (cI, 16, .inl ks))] T9.heap) A) ([.ref x, .int xx] : List Value).toArray s 0 0 A) (F0 m 160 ls []) := by
                          intro fu9
                          induction fu9 with
                          | zero => intro wv bo hfu; exact absurd hfu (Nat.not_lt_zero _)
                          | succ fu9 ih =>
                            intro wv bo hfu hw hbo H locs hP hD hS ls hl
                            refine lv_iload (pc := 160) hx hb dL_build_160 (lv_at hl 0 rfl) ?_
                            refine lv_bipush (pc := 162) (v := 16) hx hb dL_build_162 (by decide) ?_
                            refine lv_icmp_ge (pc := 164) (tgt := 311) hx hb dL_build_164 (by decide) (fun c164_112 => ?_) (fun c164_112 => ?_)
                            · have hw6 : 16 = wv := by
                                by_cases h : wv < 16
                                · exact absurd c164_112 (nI_ge h (by decide))
                                · omega
                              subst hw6
                              rw [bv_bo_join hkd hz2 (by first | exact bv_AW16 a9 ha9 | exact bv_not16 _)] at hbo
                              subst hbo
                              refine lv_aload_n (pc := 311) hx hb dL_build_311 rfl (lv_at hl 10 rfl) ?_
                              refine lv_iload (pc := 312) hx hb dL_build_312 (lv_at hl 2 rfl) ?_
                              have hPc := hP.sub (ws' := [(x, .inr (3, [.ref xp, .ref xb, .ref xm])), (xp, .inr (2, [.ref ap, .int (nI ((pn + 1) + 1))])), (ap, .inl (cI, 12, .inl (upd f1 (pn + 1) (bv_not (bv_AW a9))))), (xb, .inr (0, [.ref as, .ref ar, .ref am, .int (nI bn)])), (as, .inl (cI, 10, .inl bs)), (ar, .inl (cI, 10, .inl br)), (am, .inl (cI, 1024, .inl mt)), (xm, .inr (1, [.ref al, .ref ak])), (al, .inl (cI, 16, .inl lv)), (ak, .inl (cI, 16, .inl ks))]) [0, 1, 2, 3, 4, 5, 6, 7, 8, 9] rfl
                              have hDc := hD.sub (ws' := [(x, .inr (3, [.ref xp, .ref xb, .ref xm])), (xp, .inr (2, [.ref ap, .int (nI ((pn + 1) + 1))])), (ap, .inl (cI, 12, .inl (upd f1 (pn + 1) (bv_not (bv_AW a9))))), (xb, .inr (0, [.ref as, .ref ar, .ref am, .int (nI bn)])), (as, .inl (cI, 10, .inl bs)), (ar, .inl (cI, 10, .inl br)), (am, .inl (cI, 1024, .inl mt)), (xm, .inr (1, [.ref al, .ref ak])), (al, .inl (cI, 16, .inl lv)), (ak, .inl (cI, 16, .inl ks))]) [0, 1, 2, 3, 4, 5, 6, 7, 8, 9] (by decide) rfl
                              have hFc := va_free (wc := [(x, .inr (3, [.ref xp, .ref xb, .ref xm])), (xp, .inr (2, [.ref ap, .int (nI ((pn + 1) + 1))])), (ap, .inl (cI, 12, .inl (upd f1 (pn + 1) (bv_not (bv_AW a9))))), (xb, .inr (0, [.ref as, .ref ar, .ref am, .int (nI bn)])), (as, .inl (cI, 10, .inl bs)), (ar, .inl (cI, 10, .inl br)), (am, .inl (cI, 1024, .inl mt)), (xm, .inr (1, [.ref al, .ref ak])), (al, .inl (cI, 16, .inl lv)), (ak, .inl (cI, 16, .inl ks))]) hD hS hA [0, 1, 2, 3, 4, 5, 6, 7, 8, 9] rfl
                              refine bv_cMi (pc := 314) (E' := (bv_join (nI kd) md (bv_not (bv_AW a9)))) (va_runV (As := [.int (nI kd)]) (rest := []) ⟨hx, hb, hml, hown, hts⟩ (m_X3_join l G cI H.size x xp ap ((pn + 1) + 1) xb as ar am bn xm al ak (upd f1 (pn + 1) (bv_not (bv_AW a9))) bs br mt lv ks (nI kd) (by omega) hn hM (bv_kd3 hkd) (by omega)) (cwV 1 hts gL_build_X3_join rfl rfl rfl (by decide +kernel) ⟨Nat.le_of_ble_eq_true rfl, Nat.le_of_ble_eq_true rfl⟩) (bv_pV hE ⟨rfl, hPc, hDc.weaken (fun _ _ _ _ => trivial)⟩ (va_recv hK hP (ci := 3) (q0 := 0) rfl rfl)) rfl rfl hl.1 rfl (lv_room (Nat.le_of_ble_eq_true rfl)) dL_build_314 ⟨Nat.le_of_ble_eq_true rfl, Nat.le_of_ble_eq_true rfl⟩) hS (fun q _ h => hFc q h) hFc (by rw [bv_updS, bv_updP, hz3]) (fun t8 H1 locs ht8 hvm8 hB8 hz1 hk1 hS => ?_)
                              have hP1 : va_P G vwCl [(x, .inr (3, [.ref xp, .ref xb, .ref xm])), (xp, .inr (2, [.ref ap, .int (nI (((pn + 1) + 1) - 1))])), (ap, .inl (cI, 12, .inl (upd (upd f1 (pn + 1) (bv_not (bv_AW a9))) (((pn + 1) + 1) - 2) (bv_join (nI kd) ((upd f1 (pn + 1) (bv_not (bv_AW a9))) (((pn + 1) + 1) - 2)) ((upd f1 (pn + 1) (bv_not (bv_AW a9))) (((pn + 1) + 1) - 1)))))), (xb, .inr (0, [.ref as, .ref ar, .ref am, .int (nI bn)])), (as, .inl (cI, 10, .inl bs)), (ar, .inl (cI, 10, .inl br)), (am, .inl (cI, 1024, .inl mt)), (xm, .inr (1, [.ref al, .ref ak])), (al, .inl (cI, 16, .inl lv)), (ak, .inl (cI, 16, .inl ks))] H1 := by rw [← ht8]; exact hB8
                              obtain ⟨hP, hD⟩ := va_join (wr := []) (w1 := [(x, .inr (3, [.ref xp, .ref xb, .ref xm])), (xp, .inr (2, [.ref ap, .int (nI (((pn + 1) + 1) - 1))])), (ap, .inl (cI, 12, .inl (upd (upd f1 (pn + 1) (bv_not (bv_AW a9))) (((pn + 1) + 1) - 2) (bv_join (nI kd) ((upd f1 (pn + 1) (bv_not (bv_AW a9))) (((pn + 1) + 1) - 2)) ((upd f1 (pn + 1) (bv_not (bv_AW a9))) (((pn + 1) + 1) - 1)))))), (xb, .inr (0, [.ref as, .ref ar, .ref am, .int (nI bn)])), (as, .inl (cI, 10, .inl bs)), (ar, .inl (cI, 10, .inl br)), (am, .inl (cI, 1024, .inl mt)), (xm, .inr (1, [.ref al, .ref ak])), (al, .inl (cI, 16, .inl lv)), (ak, .inl (cI, 16, .inl ks))]) hP hD [0, 1, 2, 3, 4, 5, 6, 7, 8, 9] [] rfl rfl (by decide) (by decide) hk1 hFc hP1 (bv_Dm (w0 := [(x, .inr (3, [.ref xp, .ref xb, .ref xm])), (xp, .inr (2, [.ref ap, .int (nI ((pn + 1) + 1))])), (ap, .inl (cI, 12, .inl (upd f1 (pn + 1) (bv_not (bv_AW a9))))), (xb, .inr (0, [.ref as, .ref ar, .ref am, .int (nI bn)])), (as, .inl (cI, 10, .inl bs)), (ar, .inl (cI, 10, .inl br)), (am, .inl (cI, 1024, .inl mt)), (xm, .inr (1, [.ref al, .ref ak])), (al, .inl (cI, 16, .inl lv)), (ak, .inl (cI, 16, .inl ks))]) [x, xp, ap, xb, as, ar, am, xm, al, ak] rfl rfl hDc.self)
                              have hP : va_P G vwCl [(x, .inr (3, [.ref xp, .ref xb, .ref xm])), (xp, .inr (2, [.ref ap, .int (nI (((pn + 1) + 1) - 1))])), (ap, .inl (cI, 12, .inl (upd (upd f1 (pn + 1) (bv_not (bv_AW a9))) (((pn + 1) + 1) - 2) (bv_join (nI kd) ((upd f1 (pn + 1) (bv_not (bv_AW a9))) (((pn + 1) + 1) - 2)) ((upd f1 (pn + 1) (bv_not (bv_AW a9))) (((pn + 1) + 1) - 1)))))), (xb, .inr (0, [.ref as, .ref ar, .ref am, .int (nI bn)])), (as, .inl (cI, 10, .inl bs)), (ar, .inl (cI, 10, .inl br)), (am, .inl (cI, 1024, .inl mt)), (xm, .inr (1, [.ref al, .ref ak])), (al, .inl (cI, 16, .inl lv)), (ak, .inl (cI, 16, .inl ks))] H1 := hP.sub (ws' := [(x, .inr (3, [.ref xp, .ref xb, .ref xm])), (xp, .inr (2, [.ref ap, .int (nI (((pn + 1) + 1) - 1))])), (ap, .inl (cI, 12, .inl (upd (upd f1 (pn + 1) (bv_not (bv_AW a9))) (((pn + 1) + 1) - 2) (bv_join (nI kd) ((upd f1 (pn + 1) (bv_not (bv_AW a9))) (((pn + 1) + 1) - 2)) ((upd f1 (pn + 1) (bv_not (bv_AW a9))) (((pn + 1) + 1) - 1)))))), (xb, .inr (0, [.ref as, .ref ar, .ref am, .int (nI bn)])), (as, .inl (cI, 10, .inl bs)), (ar, .inl (cI, 10, .inl br)), (am, .inl (cI, 1024, .inl mt)), (xm, .inr (1, [.ref al, .ref ak])), (al, .inl (cI, 16, .inl lv)), (ak, .inl (cI, 16, .inl ks))]) [0, 1, 2, 3, 4, 5, 6, 7, 8, 9] rfl
                              have hD : va_D A [(x, .inr (3, [.ref xp, .ref xb, .ref xm])), (xp, .inr (2, [.ref ap, .int (nI (((pn + 1) + 1) - 1))])), (ap, .inl (cI, 12, .inl (upd (upd f1 (pn + 1) (bv_not (bv_AW a9))) (((pn + 1) + 1) - 2) (bv_join (nI kd) ((upd f1 (pn + 1) (bv_not (bv_AW a9))) (((pn + 1) + 1) - 2)) ((upd f1 (pn + 1) (bv_not (bv_AW a9))) (((pn + 1) + 1) - 1)))))), (xb, .inr (0, [.ref as, .ref ar, .ref am, .int (nI bn)])), (as, .inl (cI, 10, .inl bs)), (ar, .inl (cI, 10, .inl br)), (am, .inl (cI, 1024, .inl mt)), (xm, .inr (1, [.ref al, .ref ak])), (al, .inl (cI, 16, .inl lv)), (ak, .inl (cI, 16, .inl ks))] := hD.sub (ws' := [(x, .inr (3, [.ref xp, .ref xb, .ref xm])), (xp, .inr (2, [.ref ap, .int (nI (((pn + 1) + 1) - 1))])), (ap, .inl (cI, 12, .inl (upd (upd f1 (pn + 1) (bv_not (bv_AW a9))) (((pn + 1) + 1) - 2) (bv_join (nI kd) ((upd f1 (pn + 1) (bv_not (bv_AW a9))) (((pn + 1) + 1) - 2)) ((upd f1 (pn + 1) (bv_not (bv_AW a9))) (((pn + 1) + 1) - 1)))))), (xb, .inr (0, [.ref as, .ref ar, .ref am, .int (nI bn)])), (as, .inl (cI, 10, .inl bs)), (ar, .inl (cI, 10, .inl br)), (am, .inl (cI, 1024, .inl mt)), (xm, .inr (1, [.ref al, .ref ak])), (al, .inl (cI, 16, .inl lv)), (ak, .inl (cI, 16, .inl ks))]) [0, 1, 2, 3, 4, 5, 6, 7, 8, 9] (by decide) rfl
                              generalize H1 = H at hP hS ⊢
                              rw [show (upd (upd f1 (pn + 1) (bv_not (bv_AW a9))) (((pn + 1) + 1) - 2) (bv_join (nI kd) ((upd f1 (pn + 1) (bv_not (bv_AW a9))) (((pn + 1) + 1) - 2)) ((upd f1 (pn + 1) (bv_not (bv_AW a9))) (((pn + 1) + 1) - 1)))) = (upd (upd f1 (pn + 1) (bv_not (bv_AW a9))) pn (bv_join (nI kd) md (bv_not (bv_AW a9)))) from by rw [bv_updS, bv_updP, hz3]; rfl] at hP hD
                              refine lv_iload (pc := 317) hx hb dL_build_317 (lv_at hl 1 rfl) ?_
                              refine lv_icmp_eq (pc := 319) (tgt := 324) hx hb dL_build_319 (by decide) (fun c319_115 => ?_) (fun c319_115 => ?_)
                              · refine lv_iload (pc := 324) hx hb dL_build_324 (lv_at hl 1 rfl) ?_
                                refine lv_istore_n (pc := 326) (lv' := [(3, .int (bv_join (nI kd) md (bv_not (bv_AW a9)))), (11, .int (nI 16)), (10, .int (bv_join (nI kd) md (bv_not (bv_AW a9)))), (9, .int (nI kd)), (8, .int (bv_not (bv_AW a9))), (7, .int (nI a9)), (6, .int y9), (5, .int (nI k)), (4, .int (nI (1 + np0))), (2, .int (nI pn)), (0, .ref x), (1, .int xx)]) hx hb dL_build_326 rfl hl (by decide) rfl (fun ls hl => ?_)
                                refine lv_iinc (pc := 327) (v := (nI (k + 1))) (lv' := [(5, .int (nI (k + 1))), (3, .int (bv_join (nI kd) md (bv_not (bv_AW a9)))), (11, .int (nI 16)), (10, .int (bv_join (nI kd) md (bv_not (bv_AW a9)))), (9, .int (nI kd)), (8, .int (bv_not (bv_AW a9))), (7, .int (nI a9)), (6, .int y9), (4, .int (nI (1 + np0))), (2, .int (nI pn)), (0, .ref x), (1, .int xx)]) hx hb dL_build_327 hl (k := 7) rfl (nI_1 k) (by decide) rfl (fun ls hl => ?_)
                                refine lv_goto (pc := 330) (tgt := 19) hx hb dL_build_330 (by decide) ?_
                                exact ih_19 (k + 1) (((pn + 1) + 1) - 1) (bv_join (nI kd) md (bv_not (bv_AW a9))) (upd (upd f1 (pn + 1) (bv_not (bv_AW a9))) pn (bv_join (nI kd) md (bv_not (bv_AW a9)))) (by omega) (by omega) (Or.inr ⟨by omega, rfl, (bv_join16 hz2 (by first | exact bv_AW16 a9 ha9 | exact bv_not16 _)), bv_upd1⟩) (fun j hj => by rw [bv_updO (by omega), bv_updO (by omega)]; exact hpre j hj) H _ hP hD hS ls (lv_sub hl [0, 8, 1, 9, 10, 11] rfl)
                              · exact absurd rfl c319_115
                            · have hw6 : wv < 16 := by
                                by_cases h : wv < 16
                                · exact h
                                · exact absurd (show nI 16 ≤ nI wv from nI_le (by omega) (by omega)) c164_112
                              refine lv_iload_n (pc := 167) hx hb dL_build_167 rfl (lv_at hl 8 rfl) ?_
                              refine lv_iload (pc := 168) hx hb dL_build_168 (lv_at hl 0 rfl) ?_
                              refine lv_ishr (pc := 170) hx hb dL_build_170 ?_
                              refine lv_iconst (pc := 171) (v := 1) hx hb dL_build_171 (by decide) ?_
                              refine lv_iand (pc := 172) hx hb dL_build_172 ?_
                              refine lv_iconst (pc := 173) (v := 1) hx hb dL_build_173 (by decide) ?_
                              refine lv_icmp_ne (pc := 174) (tgt := 181) hx hb dL_build_174 (by decide) (fun c174_116 => ?_) (fun c174_116 => ?_)
                              · have hP9 : bv_has md (nI wv) = false := decide_eq_false c174_116
                                refine lv_iconst (pc := 181) (v := 0) hx hb dL_build_181 (by decide) ?_
                                refine lv_istore (pc := 182) (lv' := [(12, .int 0), (11, .int (nI wv)), (10, .int bo), (9, .int (nI kd)), (8, .int (bv_not (bv_AW a9))), (7, .int (nI a9)), (6, .int y9), (5, .int (nI k)), (4, .int (nI (1 + np0))), (3, .int md), (2, .int (nI pn)), (0, .ref x), (1, .int xx)]) hx hb dL_build_182 hl (by decide) rfl (fun ls hl => ?_)
                                refine lv_iload (pc := 184) hx hb dL_build_184 (lv_at hl 4 rfl) ?_
                                refine lv_iload (pc := 186) hx hb dL_build_186 (lv_at hl 1 rfl) ?_
                                refine lv_ishr (pc := 188) hx hb dL_build_188 ?_
                                refine lv_iconst (pc := 189) (v := 1) hx hb dL_build_189 (by decide) ?_
                                refine lv_iand (pc := 190) hx hb dL_build_190 ?_
                                refine lv_iconst (pc := 191) (v := 1) hx hb dL_build_191 (by decide) ?_
                                refine lv_icmp_ne (pc := 192) (tgt := 199) hx hb dL_build_192 (by decide) (fun c192_117 => ?_) (fun c192_117 => ?_)
                                · have hQ9 : bv_has (bv_not (bv_AW a9)) (nI wv) = false := decide_eq_false c192_117
                                  refine lv_iconst (pc := 199) (v := 0) hx hb dL_build_199 (by decide) ?_
                                  refine lv_istore (pc := 200) (lv' := [(13, .int 0), (12, .int 0), (11, .int (nI wv)), (10, .int bo), (9, .int (nI kd)), (8, .int (bv_not (bv_AW a9))), (7, .int (nI a9)), (6, .int y9), (5, .int (nI k)), (4, .int (nI (1 + np0))), (3, .int md), (2, .int (nI pn)), (0, .ref x), (1, .int xx)]) hx hb dL_build_200 hl (by decide) rfl (fun ls hl => ?_)
                                  rcases (show kd = 0 ∨ kd = 1 ∨ kd = 2 ∨ kd = 3 by omega) with rfl | rfl | rfl | rfl
                                  · refine lv_iload (pc := 202) hx hb dL_build_202 (lv_at hl 4 rfl) ?_
                                    refine lv_if_ne (pc := 204) (tgt := 225) hx hb dL_build_204 (by decide) (fun c204_118 => ?_) (fun c204_118 => ?_)
                                    · exact absurd c204_118 (by decide)
                                    · refine lv_iload (pc := 207) hx hb dL_build_207 (lv_at hl 1 rfl) ?_
                                      refine lv_if_eq (pc := 209) (tgt := 221) hx hb dL_build_209 (by decide) (fun c209_119 => ?_) (fun c209_119 => ?_)
                                      · refine lv_iconst (pc := 221) (v := 0) hx hb dL_build_221 (by decide) ?_
                                        refine lv_goto (pc := 222) (tgt := 285) hx hb dL_build_222 (by decide) ?_
                                        refine lv_istore (pc := 285) (lv' := [(14, .int 0), (13, .int 0), (12, .int 0), (11, .int (nI wv)), (10, .int bo), (9, .int (nI 0)), (8, .int (bv_not (bv_AW a9))), (7, .int (nI a9)), (6, .int y9), (5, .int (nI k)), (4, .int (nI (1 + np0))), (3, .int md), (2, .int (nI pn)), (0, .ref x), (1, .int xx)]) hx hb dL_build_285 hl (by decide) rfl (fun ls hl => ?_)
                                        refine lv_iload (pc := 287) hx hb dL_build_287 (lv_at hl 4 rfl) ?_
                                        refine lv_iload (pc := 289) hx hb dL_build_289 (lv_at hl 0 rfl) ?_
                                        refine lv_if_eq (pc := 291) (tgt := 301) hx hb dL_build_291 (by decide) (fun c291_120 => ?_) (fun c291_120 => ?_)
                                        · refine lv_iconst (pc := 301) (v := 0) hx hb dL_build_301 (by decide) ?_
                                          refine lv_ior (pc := 302) hx hb dL_build_302 ?_
                                          refine lv_istore (pc := 303) (lv' := [(10, .int (bo ||| 0)), (14, .int 0), (13, .int 0), (12, .int 0), (11, .int (nI wv)), (9, .int (nI 0)), (8, .int (bv_not (bv_AW a9))), (7, .int (nI a9)), (6, .int y9), (5, .int (nI k)), (4, .int (nI (1 + np0))), (3, .int md), (2, .int (nI pn)), (0, .ref x), (1, .int xx)]) hx hb dL_build_303 hl (by decide) rfl (fun ls hl => ?_)
                                          refine lv_iinc (pc := 305) (v := (nI (wv + 1))) (lv' := [(11, .int (nI (wv + 1))), (10, .int (bo ||| 0)), (14, .int 0), (13, .int 0), (12, .int 0), (9, .int (nI 0)), (8, .int (bv_not (bv_AW a9))), (7, .int (nI a9)), (6, .int y9), (5, .int (nI k)), (4, .int (nI (1 + np0))), (3, .int md), (2, .int (nI pn)), (0, .ref x), (1, .int xx)]) hx hb dL_build_305 hl (k := 4) rfl (nI_1 wv) (by decide) rfl (fun ls hl => ?_)
                                          refine lv_goto (pc := 308) (tgt := 160) hx hb dL_build_308 (by decide) ?_
                                          exact ih (wv + 1) (bo ||| 0) (by omega) (by omega) (by rw [bv_bo, ← hbo, hP9, hQ9]; rfl) H _ hP hD hS ls (lv_sub hl [0, 1, 5, 6, 7, 8, 9, 10, 11, 12, 13, 14] rfl)
                                        · exact absurd c291_120 (by decide)
                                      · exact absurd c209_119 (by decide)
                                  · refine lv_iload (pc := 202) hx hb dL_build_202 (lv_at hl 4 rfl) ?_
                                    refine lv_if_ne (pc := 204) (tgt := 225) hx hb dL_build_204 (by decide) (fun c204_121 => ?_) (fun c204_121 => ?_)
                                    · refine lv_iload (pc := 225) hx hb dL_build_225 (lv_at hl 4 rfl) ?_
                                      refine lv_iconst (pc := 227) (v := 1) hx hb dL_build_227 (by decide) ?_
                                      refine lv_icmp_ne (pc := 228) (tgt := 249) hx hb dL_build_228 (by decide) (fun c228_122 => ?_) (fun c228_122 => ?_)
                                      · exact absurd c228_122 (by decide)
                                      · refine lv_iload (pc := 231) hx hb dL_build_231 (lv_at hl 1 rfl) ?_
                                        refine lv_if_ne (pc := 233) (tgt := 241) hx hb dL_build_233 (by decide) (fun c233_123 => ?_) (fun c233_123 => ?_)
                                        · exact absurd c233_123 (by decide)
                                        · refine lv_iload (pc := 236) hx hb dL_build_236 (lv_at hl 0 rfl) ?_
                                          refine lv_if_eq (pc := 238) (tgt := 245) hx hb dL_build_238 (by decide) (fun c238_124 => ?_) (fun c238_124 => ?_)
                                          · refine lv_iconst (pc := 245) (v := 0) hx hb dL_build_245 (by decide) ?_
                                            refine lv_goto (pc := 246) (tgt := 285) hx hb dL_build_246 (by decide) ?_
                                            refine lv_istore (pc := 285) (lv' := [(14, .int 0), (13, .int 0), (12, .int 0), (11, .int (nI wv)), (10, .int bo), (9, .int (nI 1)), (8, .int (bv_not (bv_AW a9))), (7, .int (nI a9)), (6, .int y9), (5, .int (nI k)), (4, .int (nI (1 + np0))), (3, .int md), (2, .int (nI pn)), (0, .ref x), (1, .int xx)]) hx hb dL_build_285 hl (by decide) rfl (fun ls hl => ?_)
                                            refine lv_iload (pc := 287) hx hb dL_build_287 (lv_at hl 4 rfl) ?_
                                            refine lv_iload (pc := 289) hx hb dL_build_289 (lv_at hl 0 rfl) ?_
                                            refine lv_if_eq (pc := 291) (tgt := 301) hx hb dL_build_291 (by decide) (fun c291_125 => ?_) (fun c291_125 => ?_)
                                            · refine lv_iconst (pc := 301) (v := 0) hx hb dL_build_301 (by decide) ?_
                                              refine lv_ior (pc := 302) hx hb dL_build_302 ?_
                                              refine lv_istore (pc := 303) (lv' := [(10, .int (bo ||| 0)), (14, .int 0), (13, .int 0), (12, .int 0), (11, .int (nI wv)), (9, .int (nI 1)), (8, .int (bv_not (bv_AW a9))), (7, .int (nI a9)), (6, .int y9), (5, .int (nI k)), (4, .int (nI (1 + np0))), (3, .int md), (2, .int (nI pn)), (0, .ref x), (1, .int xx)]) hx hb dL_build_303 hl (by decide) rfl (fun ls hl => ?_)
                                              refine lv_iinc (pc := 305) (v := (nI (wv + 1))) (lv' := [(11, .int (nI (wv + 1))), (10, .int (bo ||| 0)), (14, .int 0), (13, .int 0), (12, .int 0), (9, .int (nI 1)), (8, .int (bv_not (bv_AW a9))), (7, .int (nI a9)), (6, .int y9), (5, .int (nI k)), (4, .int (nI (1 + np0))), (3, .int md), (2, .int (nI pn)), (0, .ref x), (1, .int xx)]) hx hb dL_build_305 hl (k := 4) rfl (nI_1 wv) (by decide) rfl (fun ls hl => ?_)
                                              refine lv_goto (pc := 308) (tgt := 160) hx hb dL_build_308 (by decide) ?_
                                              exact ih (wv + 1) (bo ||| 0) (by omega) (by omega) (by rw [bv_bo, ← hbo, hP9, hQ9]; rfl) H _ hP hD hS ls (lv_sub hl [0, 1, 5, 6, 7, 8, 9, 10, 11, 12, 13, 14] rfl)
                                            · exact absurd c291_125 (by decide)
                                          · exact absurd c238_124 (by decide)
                                    · exact absurd c204_121 (by decide)
                                  · refine lv_iload (pc := 202) hx hb dL_build_202 (lv_at hl 4 rfl) ?_
                                    refine lv_if_ne (pc := 204) (tgt := 225) hx hb dL_build_204 (by decide) (fun c204_126 => ?_) (fun c204_126 => ?_)
                                    · refine lv_iload (pc := 225) hx hb dL_build_225 (lv_at hl 4 rfl) ?_
                                      refine lv_iconst (pc := 227) (v := 1) hx hb dL_build_227 (by decide) ?_
                                      refine lv_icmp_ne (pc := 228) (tgt := 249) hx hb dL_build_228 (by decide) (fun c228_127 => ?_) (fun c228_127 => ?_)
                                      · refine lv_iload (pc := 249) hx hb dL_build_249 (lv_at hl 4 rfl) ?_
                                        refine lv_iconst (pc := 251) (v := 2) hx hb dL_build_251 (by decide) ?_
                                        refine lv_icmp_ne (pc := 252) (tgt := 273) hx hb dL_build_252 (by decide) (fun c252_128 => ?_) (fun c252_128 => ?_)
                                        · exact absurd c252_128 (by decide)
                                        · refine lv_iload (pc := 255) hx hb dL_build_255 (lv_at hl 1 rfl) ?_
                                          refine lv_if_ne (pc := 257) (tgt := 265) hx hb dL_build_257 (by decide) (fun c257_129 => ?_) (fun c257_129 => ?_)
                                          · exact absurd c257_129 (by decide)
                                          · refine lv_iload (pc := 260) hx hb dL_build_260 (lv_at hl 0 rfl) ?_
                                            refine lv_if_ne (pc := 262) (tgt := 269) hx hb dL_build_262 (by decide) (fun c262_130 => ?_) (fun c262_130 => ?_)
                                            · exact absurd c262_130 (by decide)
                                            · refine lv_iconst (pc := 265) (v := 1) hx hb dL_build_265 (by decide) ?_
                                              refine lv_goto (pc := 266) (tgt := 285) hx hb dL_build_266 (by decide) ?_
                                              refine lv_istore (pc := 285) (lv' := [(14, .int 1), (13, .int 0), (12, .int 0), (11, .int (nI wv)), (10, .int bo), (9, .int (nI 2)), (8, .int (bv_not (bv_AW a9))), (7, .int (nI a9)), (6, .int y9), (5, .int (nI k)), (4, .int (nI (1 + np0))), (3, .int md), (2, .int (nI pn)), (0, .ref x), (1, .int xx)]) hx hb dL_build_285 hl (by decide) rfl (fun ls hl => ?_)
                                              refine lv_iload (pc := 287) hx hb dL_build_287 (lv_at hl 4 rfl) ?_
                                              refine lv_iload (pc := 289) hx hb dL_build_289 (lv_at hl 0 rfl) ?_
                                              refine lv_if_eq (pc := 291) (tgt := 301) hx hb dL_build_291 (by decide) (fun c291_131 => ?_) (fun c291_131 => ?_)
                                              · exact absurd c291_131 (by decide)
                                              · refine lv_iconst (pc := 294) (v := 1) hx hb dL_build_294 (by decide) ?_
                                                refine lv_iload (pc := 295) hx hb dL_build_295 (lv_at hl 3 rfl) ?_
                                                refine lv_ishl (pc := 297) hx hb dL_build_297 ?_
                                                refine lv_goto (pc := 298) (tgt := 302) hx hb dL_build_298 (by decide) ?_
                                                refine lv_ior (pc := 302) hx hb dL_build_302 ?_
                                                refine lv_istore (pc := 303) (lv' := [(10, .int (bo ||| (1 <<< ((nI wv) &&& 31)))), (14, .int 1), (13, .int 0), (12, .int 0), (11, .int (nI wv)), (9, .int (nI 2)), (8, .int (bv_not (bv_AW a9))), (7, .int (nI a9)), (6, .int y9), (5, .int (nI k)), (4, .int (nI (1 + np0))), (3, .int md), (2, .int (nI pn)), (0, .ref x), (1, .int xx)]) hx hb dL_build_303 hl (by decide) rfl (fun ls hl => ?_)
                                                refine lv_iinc (pc := 305) (v := (nI (wv + 1))) (lv' := [(11, .int (nI (wv + 1))), (10, .int (bo ||| (1 <<< ((nI wv) &&& 31)))), (14, .int 1), (13, .int 0), (12, .int 0), (9, .int (nI 2)), (8, .int (bv_not (bv_AW a9))), (7, .int (nI a9)), (6, .int y9), (5, .int (nI k)), (4, .int (nI (1 + np0))), (3, .int md), (2, .int (nI pn)), (0, .ref x), (1, .int xx)]) hx hb dL_build_305 hl (k := 4) rfl (nI_1 wv) (by decide) rfl (fun ls hl => ?_)
                                                refine lv_goto (pc := 308) (tgt := 160) hx hb dL_build_308 (by decide) ?_
                                                exact ih (wv + 1) (bo ||| (1 <<< ((nI wv) &&& 31))) (by omega) (by omega) (by rw [bv_bo, ← hbo, hP9, hQ9]; rfl) H _ hP hD hS ls (lv_sub hl [0, 1, 5, 6, 7, 8, 9, 10, 11, 12, 13, 14] rfl)
                                      · exact absurd c228_127 (by decide)
                                    · exact absurd c204_126 (by decide)
                                  · refine lv_iload (pc := 202) hx hb dL_build_202 (lv_at hl 4 rfl) ?_
                                    refine lv_if_ne (pc := 204) (tgt := 225) hx hb dL_build_204 (by decide) (fun c204_132 => ?_) (fun c204_132 => ?_)
                                    · refine lv_iload (pc := 225) hx hb dL_build_225 (lv_at hl 4 rfl) ?_
                                      refine lv_iconst (pc := 227) (v := 1) hx hb dL_build_227 (by decide) ?_
                                      refine lv_icmp_ne (pc := 228) (tgt := 249) hx hb dL_build_228 (by decide) (fun c228_133 => ?_) (fun c228_133 => ?_)
                                      · refine lv_iload (pc := 249) hx hb dL_build_249 (lv_at hl 4 rfl) ?_
                                        refine lv_iconst (pc := 251) (v := 2) hx hb dL_build_251 (by decide) ?_
                                        refine lv_icmp_ne (pc := 252) (tgt := 273) hx hb dL_build_252 (by decide) (fun c252_134 => ?_) (fun c252_134 => ?_)
                                        · refine lv_iload (pc := 273) hx hb dL_build_273 (lv_at hl 1 rfl) ?_
                                          refine lv_iload (pc := 275) hx hb dL_build_275 (lv_at hl 0 rfl) ?_
                                          refine lv_icmp_ne (pc := 277) (tgt := 284) hx hb dL_build_277 (by decide) (fun c277_135 => ?_) (fun c277_135 => ?_)
                                          · exact absurd c277_135 (by decide)
                                          · refine lv_iconst (pc := 280) (v := 1) hx hb dL_build_280 (by decide) ?_
                                            refine lv_goto (pc := 281) (tgt := 285) hx hb dL_build_281 (by decide) ?_
                                            refine lv_istore (pc := 285) (lv' := [(14, .int 1), (13, .int 0), (12, .int 0), (11, .int (nI wv)), (10, .int bo), (9, .int (nI 3)), (8, .int (bv_not (bv_AW a9))), (7, .int (nI a9)), (6, .int y9), (5, .int (nI k)), (4, .int (nI (1 + np0))), (3, .int md), (2, .int (nI pn)), (0, .ref x), (1, .int xx)]) hx hb dL_build_285 hl (by decide) rfl (fun ls hl => ?_)
                                            refine lv_iload (pc := 287) hx hb dL_build_287 (lv_at hl 4 rfl) ?_
                                            refine lv_iload (pc := 289) hx hb dL_build_289 (lv_at hl 0 rfl) ?_
                                            refine lv_if_eq (pc := 291) (tgt := 301) hx hb dL_build_291 (by decide) (fun c291_136 => ?_) (fun c291_136 => ?_)
                                            · exact absurd c291_136 (by decide)
                                            · refine lv_iconst (pc := 294) (v := 1) hx hb dL_build_294 (by decide) ?_
                                              refine lv_iload (pc := 295) hx hb dL_build_295 (lv_at hl 3 rfl) ?_
                                              refine lv_ishl (pc := 297) hx hb dL_build_297 ?_
                                              refine lv_goto (pc := 298) (tgt := 302) hx hb dL_build_298 (by decide) ?_
                                              refine lv_ior (pc := 302) hx hb dL_build_302 ?_
                                              refine lv_istore (pc := 303) (lv' := [(10, .int (bo ||| (1 <<< ((nI wv) &&& 31)))), (14, .int 1), (13, .int 0), (12, .int 0), (11, .int (nI wv)), (9, .int (nI 3)), (8, .int (bv_not (bv_AW a9))), (7, .int (nI a9)), (6, .int y9), (5, .int (nI k)), (4, .int (nI (1 + np0))), (3, .int md), (2, .int (nI pn)), (0, .ref x), (1, .int xx)]) hx hb dL_build_303 hl (by decide) rfl (fun ls hl => ?_)
                                              refine lv_iinc (pc := 305) (v := (nI (wv + 1))) (lv' := [(11, .int (nI (wv + 1))), (10, .int (bo ||| (1 <<< ((nI wv) &&& 31)))), (14, .int 1), (13, .int 0), (12, .int 0), (9, .int (nI 3)), (8, .int (bv_not (bv_AW a9))), (7, .int (nI a9)), (6, .int y9), (5, .int (nI k)), (4, .int (nI (1 + np0))), (3, .int md), (2, .int (nI pn)), (0, .ref x), (1, .int xx)]) hx hb dL_build_305 hl (k := 4) rfl (nI_1 wv) (by decide) rfl (fun ls hl => ?_)
                                              refine lv_goto (pc := 308) (tgt := 160) hx hb dL_build_308 (by decide) ?_
                                              exact ih (wv + 1) (bo ||| (1 <<< ((nI wv) &&& 31))) (by omega) (by omega) (by rw [bv_bo, ← hbo, hP9, hQ9]; rfl) H _ hP hD hS ls (lv_sub hl [0, 1, 5, 6, 7, 8, 9, 10, 11, 12, 13, 14] rfl)
                                        · exact absurd c252_134 (by decide)
                                      · exact absurd c228_133 (by decide)
                                    · exact absurd c204_132 (by decide)
                                · have hQ9 : bv_has (bv_not (bv_AW a9)) (nI wv) = true := decide_eq_true c192_117
                                  refine lv_iconst (pc := 195) (v := 1) hx hb dL_build_195 (by decide) ?_
                                  refine lv_goto (pc := 196) (tgt := 200) hx hb dL_build_196 (by decide) ?_
                                  refine lv_istore (pc := 200) (lv' := [(13, .int 1), (12, .int 0), (11, .int (nI wv)), (10, .int bo), (9, .int (nI kd)), (8, .int (bv_not (bv_AW a9))), (7, .int (nI a9)), (6, .int y9), (5, .int (nI k)), (4, .int (nI (1 + np0))), (3, .int md), (2, .int (nI pn)), (0, .ref x), (1, .int xx)]) hx hb dL_build_200 hl (by decide) rfl (fun ls hl => ?_)
                                  rcases (show kd = 0 ∨ kd = 1 ∨ kd = 2 ∨ kd = 3 by omega) with rfl | rfl | rfl | rfl
                                  · refine lv_iload (pc := 202) hx hb dL_build_202 (lv_at hl 4 rfl) ?_
                                    refine lv_if_ne (pc := 204) (tgt := 225) hx hb dL_build_204 (by decide) (fun c204_137 => ?_) (fun c204_137 => ?_)
                                    · exact absurd c204_137 (by decide)
                                    · refine lv_iload (pc := 207) hx hb dL_build_207 (lv_at hl 1 rfl) ?_
                                      refine lv_if_eq (pc := 209) (tgt := 221) hx hb dL_build_209 (by decide) (fun c209_138 => ?_) (fun c209_138 => ?_)
                                      · refine lv_iconst (pc := 221) (v := 0) hx hb dL_build_221 (by decide) ?_
                                        refine lv_goto (pc := 222) (tgt := 285) hx hb dL_build_222 (by decide) ?_
                                        refine lv_istore (pc := 285) (lv' := [(14, .int 0), (13, .int 1), (12, .int 0), (11, .int (nI wv)), (10, .int bo), (9, .int (nI 0)), (8, .int (bv_not (bv_AW a9))), (7, .int (nI a9)), (6, .int y9), (5, .int (nI k)), (4, .int (nI (1 + np0))), (3, .int md), (2, .int (nI pn)), (0, .ref x), (1, .int xx)]) hx hb dL_build_285 hl (by decide) rfl (fun ls hl => ?_)
                                        refine lv_iload (pc := 287) hx hb dL_build_287 (lv_at hl 4 rfl) ?_
                                        refine lv_iload (pc := 289) hx hb dL_build_289 (lv_at hl 0 rfl) ?_
                                        refine lv_if_eq (pc := 291) (tgt := 301) hx hb dL_build_291 (by decide) (fun c291_139 => ?_) (fun c291_139 => ?_)
                                        · refine lv_iconst (pc := 301) (v := 0) hx hb dL_build_301 (by decide) ?_
                                          refine lv_ior (pc := 302) hx hb dL_build_302 ?_
                                          refine lv_istore (pc := 303) (lv' := [(10, .int (bo ||| 0)), (14, .int 0), (13, .int 1), (12, .int 0), (11, .int (nI wv)), (9, .int (nI 0)), (8, .int (bv_not (bv_AW a9))), (7, .int (nI a9)), (6, .int y9), (5, .int (nI k)), (4, .int (nI (1 + np0))), (3, .int md), (2, .int (nI pn)), (0, .ref x), (1, .int xx)]) hx hb dL_build_303 hl (by decide) rfl (fun ls hl => ?_)
                                          refine lv_iinc (pc := 305) (v := (nI (wv + 1))) (lv' := [(11, .int (nI (wv + 1))), (10, .int (bo ||| 0)), (14, .int 0), (13, .int 1), (12, .int 0), (9, .int (nI 0)), (8, .int (bv_not (bv_AW a9))), (7, .int (nI a9)), (6, .int y9), (5, .int (nI k)), (4, .int (nI (1 + np0))), (3, .int md), (2, .int (nI pn)), (0, .ref x), (1, .int xx)]) hx hb dL_build_305 hl (k := 4) rfl (nI_1 wv) (by decide) rfl (fun ls hl => ?_)
                                          refine lv_goto (pc := 308) (tgt := 160) hx hb dL_build_308 (by decide) ?_
                                          exact ih (wv + 1) (bo ||| 0) (by omega) (by omega) (by rw [bv_bo, ← hbo, hP9, hQ9]; rfl) H _ hP hD hS ls (lv_sub hl [0, 1, 5, 6, 7, 8, 9, 10, 11, 12, 13, 14] rfl)
                                        · exact absurd c291_139 (by decide)
                                      · exact absurd c209_138 (by decide)
                                  · refine lv_iload (pc := 202) hx hb dL_build_202 (lv_at hl 4 rfl) ?_
                                    refine lv_if_ne (pc := 204) (tgt := 225) hx hb dL_build_204 (by decide) (fun c204_140 => ?_) (fun c204_140 => ?_)
                                    · refine lv_iload (pc := 225) hx hb dL_build_225 (lv_at hl 4 rfl) ?_
                                      refine lv_iconst (pc := 227) (v := 1) hx hb dL_build_227 (by decide) ?_
                                      refine lv_icmp_ne (pc := 228) (tgt := 249) hx hb dL_build_228 (by decide) (fun c228_141 => ?_) (fun c228_141 => ?_)
                                      · exact absurd c228_141 (by decide)
                                      · refine lv_iload (pc := 231) hx hb dL_build_231 (lv_at hl 1 rfl) ?_
                                        refine lv_if_ne (pc := 233) (tgt := 241) hx hb dL_build_233 (by decide) (fun c233_142 => ?_) (fun c233_142 => ?_)
                                        · exact absurd c233_142 (by decide)
                                        · refine lv_iload (pc := 236) hx hb dL_build_236 (lv_at hl 0 rfl) ?_
                                          refine lv_if_eq (pc := 238) (tgt := 245) hx hb dL_build_238 (by decide) (fun c238_143 => ?_) (fun c238_143 => ?_)
                                          · exact absurd c238_143 (by decide)
                                          · refine lv_iconst (pc := 241) (v := 1) hx hb dL_build_241 (by decide) ?_
                                            refine lv_goto (pc := 242) (tgt := 285) hx hb dL_build_242 (by decide) ?_
                                            refine lv_istore (pc := 285) (lv' := [(14, .int 1), (13, .int 1), (12, .int 0), (11, .int (nI wv)), (10, .int bo), (9, .int (nI 1)), (8, .int (bv_not (bv_AW a9))), (7, .int (nI a9)), (6, .int y9), (5, .int (nI k)), (4, .int (nI (1 + np0))), (3, .int md), (2, .int (nI pn)), (0, .ref x), (1, .int xx)]) hx hb dL_build_285 hl (by decide) rfl (fun ls hl => ?_)
                                            refine lv_iload (pc := 287) hx hb dL_build_287 (lv_at hl 4 rfl) ?_
                                            refine lv_iload (pc := 289) hx hb dL_build_289 (lv_at hl 0 rfl) ?_
                                            refine lv_if_eq (pc := 291) (tgt := 301) hx hb dL_build_291 (by decide) (fun c291_144 => ?_) (fun c291_144 => ?_)
                                            · exact absurd c291_144 (by decide)
                                            · refine lv_iconst (pc := 294) (v := 1) hx hb dL_build_294 (by decide) ?_
                                              refine lv_iload (pc := 295) hx hb dL_build_295 (lv_at hl 3 rfl) ?_
                                              refine lv_ishl (pc := 297) hx hb dL_build_297 ?_
                                              refine lv_goto (pc := 298) (tgt := 302) hx hb dL_build_298 (by decide) ?_
                                              refine lv_ior (pc := 302) hx hb dL_build_302 ?_
                                              refine lv_istore (pc := 303) (lv' := [(10, .int (bo ||| (1 <<< ((nI wv) &&& 31)))), (14, .int 1), (13, .int 1), (12, .int 0), (11, .int (nI wv)), (9, .int (nI 1)), (8, .int (bv_not (bv_AW a9))), (7, .int (nI a9)), (6, .int y9), (5, .int (nI k)), (4, .int (nI (1 + np0))), (3, .int md), (2, .int (nI pn)), (0, .ref x), (1, .int xx)]) hx hb dL_build_303 hl (by decide) rfl (fun ls hl => ?_)
                                              refine lv_iinc (pc := 305) (v := (nI (wv + 1))) (lv' := [(11, .int (nI (wv + 1))), (10, .int (bo ||| (1 <<< ((nI wv) &&& 31)))), (14, .int 1), (13, .int 1), (12, .int 0), (9, .int (nI 1)), (8, .int (bv_not (bv_AW a9))), (7, .int (nI a9)), (6, .int y9), (5, .int (nI k)), (4, .int (nI (1 + np0))), (3, .int md), (2, .int (nI pn)), (0, .ref x), (1, .int xx)]) hx hb dL_build_305 hl (k := 4) rfl (nI_1 wv) (by decide) rfl (fun ls hl => ?_)
                                              refine lv_goto (pc := 308) (tgt := 160) hx hb dL_build_308 (by decide) ?_
                                              exact ih (wv + 1) (bo ||| (1 <<< ((nI wv) &&& 31))) (by omega) (by omega) (by rw [bv_bo, ← hbo, hP9, hQ9]; rfl) H _ hP hD hS ls (lv_sub hl [0, 1, 5, 6, 7, 8, 9, 10, 11, 12, 13, 14] rfl)
                                    · exact absurd c204_140 (by decide)
                                  · refine lv_iload (pc := 202) hx hb dL_build_202 (lv_at hl 4 rfl) ?_
                                    refine lv_if_ne (pc := 204) (tgt := 225) hx hb dL_build_204 (by decide) (fun c204_145 => ?_) (fun c204_145 => ?_)
                                    · refine lv_iload (pc := 225) hx hb dL_build_225 (lv_at hl 4 rfl) ?_
                                      refine lv_iconst (pc := 227) (v := 1) hx hb dL_build_227 (by decide) ?_
                                      refine lv_icmp_ne (pc := 228) (tgt := 249) hx hb dL_build_228 (by decide) (fun c228_146 => ?_) (fun c228_146 => ?_)
                                      · refine lv_iload (pc := 249) hx hb dL_build_249 (lv_at hl 4 rfl) ?_
                                        refine lv_iconst (pc := 251) (v := 2) hx hb dL_build_251 (by decide) ?_
                                        refine lv_icmp_ne (pc := 252) (tgt := 273) hx hb dL_build_252 (by decide) (fun c252_147 => ?_) (fun c252_147 => ?_)
                                        · exact absurd c252_147 (by decide)
                                        · refine lv_iload (pc := 255) hx hb dL_build_255 (lv_at hl 1 rfl) ?_
                                          refine lv_if_ne (pc := 257) (tgt := 265) hx hb dL_build_257 (by decide) (fun c257_148 => ?_) (fun c257_148 => ?_)
                                          · exact absurd c257_148 (by decide)
                                          · refine lv_iload (pc := 260) hx hb dL_build_260 (lv_at hl 0 rfl) ?_
                                            refine lv_if_ne (pc := 262) (tgt := 269) hx hb dL_build_262 (by decide) (fun c262_149 => ?_) (fun c262_149 => ?_)
                                            · refine lv_iconst (pc := 269) (v := 0) hx hb dL_build_269 (by decide) ?_
                                              refine lv_goto (pc := 270) (tgt := 285) hx hb dL_build_270 (by decide) ?_
                                              refine lv_istore (pc := 285) (lv' := [(14, .int 0), (13, .int 1), (12, .int 0), (11, .int (nI wv)), (10, .int bo), (9, .int (nI 2)), (8, .int (bv_not (bv_AW a9))), (7, .int (nI a9)), (6, .int y9), (5, .int (nI k)), (4, .int (nI (1 + np0))), (3, .int md), (2, .int (nI pn)), (0, .ref x), (1, .int xx)]) hx hb dL_build_285 hl (by decide) rfl (fun ls hl => ?_)
                                              refine lv_iload (pc := 287) hx hb dL_build_287 (lv_at hl 4 rfl) ?_
                                              refine lv_iload (pc := 289) hx hb dL_build_289 (lv_at hl 0 rfl) ?_
                                              refine lv_if_eq (pc := 291) (tgt := 301) hx hb dL_build_291 (by decide) (fun c291_150 => ?_) (fun c291_150 => ?_)
                                              · refine lv_iconst (pc := 301) (v := 0) hx hb dL_build_301 (by decide) ?_
                                                refine lv_ior (pc := 302) hx hb dL_build_302 ?_
                                                refine lv_istore (pc := 303) (lv' := [(10, .int (bo ||| 0)), (14, .int 0), (13, .int 1), (12, .int 0), (11, .int (nI wv)), (9, .int (nI 2)), (8, .int (bv_not (bv_AW a9))), (7, .int (nI a9)), (6, .int y9), (5, .int (nI k)), (4, .int (nI (1 + np0))), (3, .int md), (2, .int (nI pn)), (0, .ref x), (1, .int xx)]) hx hb dL_build_303 hl (by decide) rfl (fun ls hl => ?_)
                                                refine lv_iinc (pc := 305) (v := (nI (wv + 1))) (lv' := [(11, .int (nI (wv + 1))), (10, .int (bo ||| 0)), (14, .int 0), (13, .int 1), (12, .int 0), (9, .int (nI 2)), (8, .int (bv_not (bv_AW a9))), (7, .int (nI a9)), (6, .int y9), (5, .int (nI k)), (4, .int (nI (1 + np0))), (3, .int md), (2, .int (nI pn)), (0, .ref x), (1, .int xx)]) hx hb dL_build_305 hl (k := 4) rfl (nI_1 wv) (by decide) rfl (fun ls hl => ?_)
                                                refine lv_goto (pc := 308) (tgt := 160) hx hb dL_build_308 (by decide) ?_
                                                exact ih (wv + 1) (bo ||| 0) (by omega) (by omega) (by rw [bv_bo, ← hbo, hP9, hQ9]; rfl) H _ hP hD hS ls (lv_sub hl [0, 1, 5, 6, 7, 8, 9, 10, 11, 12, 13, 14] rfl)
                                              · exact absurd c291_150 (by decide)
                                            · exact absurd c262_149 (by decide)
                                      · exact absurd c228_146 (by decide)
                                    · exact absurd c204_145 (by decide)
                                  · refine lv_iload (pc := 202) hx hb dL_build_202 (lv_at hl 4 rfl) ?_
                                    refine lv_if_ne (pc := 204) (tgt := 225) hx hb dL_build_204 (by decide) (fun c204_151 => ?_) (fun c204_151 => ?_)
                                    · refine lv_iload (pc := 225) hx hb dL_build_225 (lv_at hl 4 rfl) ?_
                                      refine lv_iconst (pc := 227) (v := 1) hx hb dL_build_227 (by decide) ?_
                                      refine lv_icmp_ne (pc := 228) (tgt := 249) hx hb dL_build_228 (by decide) (fun c228_152 => ?_) (fun c228_152 => ?_)
                                      · refine lv_iload (pc := 249) hx hb dL_build_249 (lv_at hl 4 rfl) ?_
                                        refine lv_iconst (pc := 251) (v := 2) hx hb dL_build_251 (by decide) ?_
                                        refine lv_icmp_ne (pc := 252) (tgt := 273) hx hb dL_build_252 (by decide) (fun c252_153 => ?_) (fun c252_153 => ?_)
                                        · refine lv_iload (pc := 273) hx hb dL_build_273 (lv_at hl 1 rfl) ?_
                                          refine lv_iload (pc := 275) hx hb dL_build_275 (lv_at hl 0 rfl) ?_
                                          refine lv_icmp_ne (pc := 277) (tgt := 284) hx hb dL_build_277 (by decide) (fun c277_154 => ?_) (fun c277_154 => ?_)
                                          · refine lv_iconst (pc := 284) (v := 0) hx hb dL_build_284 (by decide) ?_
                                            refine lv_istore (pc := 285) (lv' := [(14, .int 0), (13, .int 1), (12, .int 0), (11, .int (nI wv)), (10, .int bo), (9, .int (nI 3)), (8, .int (bv_not (bv_AW a9))), (7, .int (nI a9)), (6, .int y9), (5, .int (nI k)), (4, .int (nI (1 + np0))), (3, .int md), (2, .int (nI pn)), (0, .ref x), (1, .int xx)]) hx hb dL_build_285 hl (by decide) rfl (fun ls hl => ?_)
                                            refine lv_iload (pc := 287) hx hb dL_build_287 (lv_at hl 4 rfl) ?_
                                            refine lv_iload (pc := 289) hx hb dL_build_289 (lv_at hl 0 rfl) ?_
                                            refine lv_if_eq (pc := 291) (tgt := 301) hx hb dL_build_291 (by decide) (fun c291_155 => ?_) (fun c291_155 => ?_)
                                            · refine lv_iconst (pc := 301) (v := 0) hx hb dL_build_301 (by decide) ?_
                                              refine lv_ior (pc := 302) hx hb dL_build_302 ?_
                                              refine lv_istore (pc := 303) (lv' := [(10, .int (bo ||| 0)), (14, .int 0), (13, .int 1), (12, .int 0), (11, .int (nI wv)), (9, .int (nI 3)), (8, .int (bv_not (bv_AW a9))), (7, .int (nI a9)), (6, .int y9), (5, .int (nI k)), (4, .int (nI (1 + np0))), (3, .int md), (2, .int (nI pn)), (0, .ref x), (1, .int xx)]) hx hb dL_build_303 hl (by decide) rfl (fun ls hl => ?_)
                                              refine lv_iinc (pc := 305) (v := (nI (wv + 1))) (lv' := [(11, .int (nI (wv + 1))), (10, .int (bo ||| 0)), (14, .int 0), (13, .int 1), (12, .int 0), (9, .int (nI 3)), (8, .int (bv_not (bv_AW a9))), (7, .int (nI a9)), (6, .int y9), (5, .int (nI k)), (4, .int (nI (1 + np0))), (3, .int md), (2, .int (nI pn)), (0, .ref x), (1, .int xx)]) hx hb dL_build_305 hl (k := 4) rfl (nI_1 wv) (by decide) rfl (fun ls hl => ?_)
                                              refine lv_goto (pc := 308) (tgt := 160) hx hb dL_build_308 (by decide) ?_
                                              exact ih (wv + 1) (bo ||| 0) (by omega) (by omega) (by rw [bv_bo, ← hbo, hP9, hQ9]; rfl) H _ hP hD hS ls (lv_sub hl [0, 1, 5, 6, 7, 8, 9, 10, 11, 12, 13, 14] rfl)
                                            · exact absurd c291_155 (by decide)
                                          · exact absurd c277_154 (by decide)
                                        · exact absurd c252_153 (by decide)
                                      · exact absurd c228_152 (by decide)
                                    · exact absurd c204_151 (by decide)
                              · have hP9 : bv_has md (nI wv) = true := decide_eq_true c174_116
                                refine lv_iconst (pc := 177) (v := 1) hx hb dL_build_177 (by decide) ?_
                                refine lv_goto (pc := 178) (tgt := 182) hx hb dL_build_178 (by decide) ?_
                                refine lv_istore (pc := 182) (lv' := [(12, .int 1), (11, .int (nI wv)), (10, .int bo), (9, .int (nI kd)), (8, .int (bv_not (bv_AW a9))), (7, .int (nI a9)), (6, .int y9), (5, .int (nI k)), (4, .int (nI (1 + np0))), (3, .int md), (2, .int (nI pn)), (0, .ref x), (1, .int xx)]) hx hb dL_build_182 hl (by decide) rfl (fun ls hl => ?_)
                                refine lv_iload (pc := 184) hx hb dL_build_184 (lv_at hl 4 rfl) ?_
                                refine lv_iload (pc := 186) hx hb dL_build_186 (lv_at hl 1 rfl) ?_
                                refine lv_ishr (pc := 188) hx hb dL_build_188 ?_
                                refine lv_iconst (pc := 189) (v := 1) hx hb dL_build_189 (by decide) ?_
                                refine lv_iand (pc := 190) hx hb dL_build_190 ?_
                                refine lv_iconst (pc := 191) (v := 1) hx hb dL_build_191 (by decide) ?_
                                refine lv_icmp_ne (pc := 192) (tgt := 199) hx hb dL_build_192 (by decide) (fun c192_156 => ?_) (fun c192_156 => ?_)
                                · have hQ9 : bv_has (bv_not (bv_AW a9)) (nI wv) = false := decide_eq_false c192_156
                                  refine lv_iconst (pc := 199) (v := 0) hx hb dL_build_199 (by decide) ?_
                                  refine lv_istore (pc := 200) (lv' := [(13, .int 0), (12, .int 1), (11, .int (nI wv)), (10, .int bo), (9, .int (nI kd)), (8, .int (bv_not (bv_AW a9))), (7, .int (nI a9)), (6, .int y9), (5, .int (nI k)), (4, .int (nI (1 + np0))), (3, .int md), (2, .int (nI pn)), (0, .ref x), (1, .int xx)]) hx hb dL_build_200 hl (by decide) rfl (fun ls hl => ?_)
                                  rcases (show kd = 0 ∨ kd = 1 ∨ kd = 2 ∨ kd = 3 by omega) with rfl | rfl | rfl | rfl
                                  · refine lv_iload (pc := 202) hx hb dL_build_202 (lv_at hl 4 rfl) ?_
                                    refine lv_if_ne (pc := 204) (tgt := 225) hx hb dL_build_204 (by decide) (fun c204_157 => ?_) (fun c204_157 => ?_)
                                    · exact absurd c204_157 (by decide)
                                    · refine lv_iload (pc := 207) hx hb dL_build_207 (lv_at hl 1 rfl) ?_
                                      refine lv_if_eq (pc := 209) (tgt := 221) hx hb dL_build_209 (by decide) (fun c209_158 => ?_) (fun c209_158 => ?_)
                                      · exact absurd c209_158 (by decide)
                                      · refine lv_iload (pc := 212) hx hb dL_build_212 (lv_at hl 0 rfl) ?_
                                        refine lv_if_eq (pc := 214) (tgt := 221) hx hb dL_build_214 (by decide) (fun c214_159 => ?_) (fun c214_159 => ?_)
                                        · refine lv_iconst (pc := 221) (v := 0) hx hb dL_build_221 (by decide) ?_
                                          refine lv_goto (pc := 222) (tgt := 285) hx hb dL_build_222 (by decide) ?_
                                          refine lv_istore (pc := 285) (lv' := [(14, .int 0), (13, .int 0), (12, .int 1), (11, .int (nI wv)), (10, .int bo), (9, .int (nI 0)), (8, .int (bv_not (bv_AW a9))), (7, .int (nI a9)), (6, .int y9), (5, .int (nI k)), (4, .int (nI (1 + np0))), (3, .int md), (2, .int (nI pn)), (0, .ref x), (1, .int xx)]) hx hb dL_build_285 hl (by decide) rfl (fun ls hl => ?_)
                                          refine lv_iload (pc := 287) hx hb dL_build_287 (lv_at hl 4 rfl) ?_
                                          refine lv_iload (pc := 289) hx hb dL_build_289 (lv_at hl 0 rfl) ?_
                                          refine lv_if_eq (pc := 291) (tgt := 301) hx hb dL_build_291 (by decide) (fun c291_160 => ?_) (fun c291_160 => ?_)
                                          · refine lv_iconst (pc := 301) (v := 0) hx hb dL_build_301 (by decide) ?_
                                            refine lv_ior (pc := 302) hx hb dL_build_302 ?_
                                            refine lv_istore (pc := 303) (lv' := [(10, .int (bo ||| 0)), (14, .int 0), (13, .int 0), (12, .int 1), (11, .int (nI wv)), (9, .int (nI 0)), (8, .int (bv_not (bv_AW a9))), (7, .int (nI a9)), (6, .int y9), (5, .int (nI k)), (4, .int (nI (1 + np0))), (3, .int md), (2, .int (nI pn)), (0, .ref x), (1, .int xx)]) hx hb dL_build_303 hl (by decide) rfl (fun ls hl => ?_)
                                            refine lv_iinc (pc := 305) (v := (nI (wv + 1))) (lv' := [(11, .int (nI (wv + 1))), (10, .int (bo ||| 0)), (14, .int 0), (13, .int 0), (12, .int 1), (9, .int (nI 0)), (8, .int (bv_not (bv_AW a9))), (7, .int (nI a9)), (6, .int y9), (5, .int (nI k)), (4, .int (nI (1 + np0))), (3, .int md), (2, .int (nI pn)), (0, .ref x), (1, .int xx)]) hx hb dL_build_305 hl (k := 4) rfl (nI_1 wv) (by decide) rfl (fun ls hl => ?_)
                                            refine lv_goto (pc := 308) (tgt := 160) hx hb dL_build_308 (by decide) ?_
                                            exact ih (wv + 1) (bo ||| 0) (by omega) (by omega) (by rw [bv_bo, ← hbo, hP9, hQ9]; rfl) H _ hP hD hS ls (lv_sub hl [0, 1, 5, 6, 7, 8, 9, 10, 11, 12, 13, 14] rfl)
                                          · exact absurd c291_160 (by decide)
                                        · exact absurd c214_159 (by decide)
                                  · refine lv_iload (pc := 202) hx hb dL_build_202 (lv_at hl 4 rfl) ?_
                                    refine lv_if_ne (pc := 204) (tgt := 225) hx hb dL_build_204 (by decide) (fun c204_161 => ?_) (fun c204_161 => ?_)
                                    · refine lv_iload (pc := 225) hx hb dL_build_225 (lv_at hl 4 rfl) ?_
                                      refine lv_iconst (pc := 227) (v := 1) hx hb dL_build_227 (by decide) ?_
                                      refine lv_icmp_ne (pc := 228) (tgt := 249) hx hb dL_build_228 (by decide) (fun c228_162 => ?_) (fun c228_162 => ?_)
                                      · exact absurd c228_162 (by decide)
                                      · refine lv_iload (pc := 231) hx hb dL_build_231 (lv_at hl 1 rfl) ?_
                                        refine lv_if_ne (pc := 233) (tgt := 241) hx hb dL_build_233 (by decide) (fun c233_163 => ?_) (fun c233_163 => ?_)
                                        · refine lv_iconst (pc := 241) (v := 1) hx hb dL_build_241 (by decide) ?_
                                          refine lv_goto (pc := 242) (tgt := 285) hx hb dL_build_242 (by decide) ?_
                                          refine lv_istore (pc := 285) (lv' := [(14, .int 1), (13, .int 0), (12, .int 1), (11, .int (nI wv)), (10, .int bo), (9, .int (nI 1)), (8, .int (bv_not (bv_AW a9))), (7, .int (nI a9)), (6, .int y9), (5, .int (nI k)), (4, .int (nI (1 + np0))), (3, .int md), (2, .int (nI pn)), (0, .ref x), (1, .int xx)]) hx hb dL_build_285 hl (by decide) rfl (fun ls hl => ?_)
                                          refine lv_iload (pc := 287) hx hb dL_build_287 (lv_at hl 4 rfl) ?_
                                          refine lv_iload (pc := 289) hx hb dL_build_289 (lv_at hl 0 rfl) ?_
                                          refine lv_if_eq (pc := 291) (tgt := 301) hx hb dL_build_291 (by decide) (fun c291_164 => ?_) (fun c291_164 => ?_)
                                          · exact absurd c291_164 (by decide)
                                          · refine lv_iconst (pc := 294) (v := 1) hx hb dL_build_294 (by decide) ?_
                                            refine lv_iload (pc := 295) hx hb dL_build_295 (lv_at hl 3 rfl) ?_
                                            refine lv_ishl (pc := 297) hx hb dL_build_297 ?_
                                            refine lv_goto (pc := 298) (tgt := 302) hx hb dL_build_298 (by decide) ?_
                                            refine lv_ior (pc := 302) hx hb dL_build_302 ?_
                                            refine lv_istore (pc := 303) (lv' := [(10, .int (bo ||| (1 <<< ((nI wv) &&& 31)))), (14, .int 1), (13, .int 0), (12, .int 1), (11, .int (nI wv)), (9, .int (nI 1)), (8, .int (bv_not (bv_AW a9))), (7, .int (nI a9)), (6, .int y9), (5, .int (nI k)), (4, .int (nI (1 + np0))), (3, .int md), (2, .int (nI pn)), (0, .ref x), (1, .int xx)]) hx hb dL_build_303 hl (by decide) rfl (fun ls hl => ?_)
                                            refine lv_iinc (pc := 305) (v := (nI (wv + 1))) (lv' := [(11, .int (nI (wv + 1))), (10, .int (bo ||| (1 <<< ((nI wv) &&& 31)))), (14, .int 1), (13, .int 0), (12, .int 1), (9, .int (nI 1)), (8, .int (bv_not (bv_AW a9))), (7, .int (nI a9)), (6, .int y9), (5, .int (nI k)), (4, .int (nI (1 + np0))), (3, .int md), (2, .int (nI pn)), (0, .ref x), (1, .int xx)]) hx hb dL_build_305 hl (k := 4) rfl (nI_1 wv) (by decide) rfl (fun ls hl => ?_)
                                            refine lv_goto (pc := 308) (tgt := 160) hx hb dL_build_308 (by decide) ?_
                                            exact ih (wv + 1) (bo ||| (1 <<< ((nI wv) &&& 31))) (by omega) (by omega) (by rw [bv_bo, ← hbo, hP9, hQ9]; rfl) H _ hP hD hS ls (lv_sub hl [0, 1, 5, 6, 7, 8, 9, 10, 11, 12, 13, 14] rfl)
                                        · exact absurd c233_163 (by decide)
                                    · exact absurd c204_161 (by decide)
                                  · refine lv_iload (pc := 202) hx hb dL_build_202 (lv_at hl 4 rfl) ?_
                                    refine lv_if_ne (pc := 204) (tgt := 225) hx hb dL_build_204 (by decide) (fun c204_165 => ?_) (fun c204_165 => ?_)
                                    · refine lv_iload (pc := 225) hx hb dL_build_225 (lv_at hl 4 rfl) ?_
                                      refine lv_iconst (pc := 227) (v := 1) hx hb dL_build_227 (by decide) ?_
                                      refine lv_icmp_ne (pc := 228) (tgt := 249) hx hb dL_build_228 (by decide) (fun c228_166 => ?_) (fun c228_166 => ?_)
                                      · refine lv_iload (pc := 249) hx hb dL_build_249 (lv_at hl 4 rfl) ?_
                                        refine lv_iconst (pc := 251) (v := 2) hx hb dL_build_251 (by decide) ?_
                                        refine lv_icmp_ne (pc := 252) (tgt := 273) hx hb dL_build_252 (by decide) (fun c252_167 => ?_) (fun c252_167 => ?_)
                                        · exact absurd c252_167 (by decide)
                                        · refine lv_iload (pc := 255) hx hb dL_build_255 (lv_at hl 1 rfl) ?_
                                          refine lv_if_ne (pc := 257) (tgt := 265) hx hb dL_build_257 (by decide) (fun c257_168 => ?_) (fun c257_168 => ?_)
                                          · refine lv_iconst (pc := 265) (v := 1) hx hb dL_build_265 (by decide) ?_
                                            refine lv_goto (pc := 266) (tgt := 285) hx hb dL_build_266 (by decide) ?_
                                            refine lv_istore (pc := 285) (lv' := [(14, .int 1), (13, .int 0), (12, .int 1), (11, .int (nI wv)), (10, .int bo), (9, .int (nI 2)), (8, .int (bv_not (bv_AW a9))), (7, .int (nI a9)), (6, .int y9), (5, .int (nI k)), (4, .int (nI (1 + np0))), (3, .int md), (2, .int (nI pn)), (0, .ref x), (1, .int xx)]) hx hb dL_build_285 hl (by decide) rfl (fun ls hl => ?_)
                                            refine lv_iload (pc := 287) hx hb dL_build_287 (lv_at hl 4 rfl) ?_
                                            refine lv_iload (pc := 289) hx hb dL_build_289 (lv_at hl 0 rfl) ?_
                                            refine lv_if_eq (pc := 291) (tgt := 301) hx hb dL_build_291 (by decide) (fun c291_169 => ?_) (fun c291_169 => ?_)
                                            · exact absurd c291_169 (by decide)
                                            · refine lv_iconst (pc := 294) (v := 1) hx hb dL_build_294 (by decide) ?_
                                              refine lv_iload (pc := 295) hx hb dL_build_295 (lv_at hl 3 rfl) ?_
                                              refine lv_ishl (pc := 297) hx hb dL_build_297 ?_
                                              refine lv_goto (pc := 298) (tgt := 302) hx hb dL_build_298 (by decide) ?_
                                              refine lv_ior (pc := 302) hx hb dL_build_302 ?_
                                              refine lv_istore (pc := 303) (lv' := [(10, .int (bo ||| (1 <<< ((nI wv) &&& 31)))), (14, .int 1), (13, .int 0), (12, .int 1), (11, .int (nI wv)), (9, .int (nI 2)), (8, .int (bv_not (bv_AW a9))), (7, .int (nI a9)), (6, .int y9), (5, .int (nI k)), (4, .int (nI (1 + np0))), (3, .int md), (2, .int (nI pn)), (0, .ref x), (1, .int xx)]) hx hb dL_build_303 hl (by decide) rfl (fun ls hl => ?_)
                                              refine lv_iinc (pc := 305) (v := (nI (wv + 1))) (lv' := [(11, .int (nI (wv + 1))), (10, .int (bo ||| (1 <<< ((nI wv) &&& 31)))), (14, .int 1), (13, .int 0), (12, .int 1), (9, .int (nI 2)), (8, .int (bv_not (bv_AW a9))), (7, .int (nI a9)), (6, .int y9), (5, .int (nI k)), (4, .int (nI (1 + np0))), (3, .int md), (2, .int (nI pn)), (0, .ref x), (1, .int xx)]) hx hb dL_build_305 hl (k := 4) rfl (nI_1 wv) (by decide) rfl (fun ls hl => ?_)
                                              refine lv_goto (pc := 308) (tgt := 160) hx hb dL_build_308 (by decide) ?_
                                              exact ih (wv + 1) (bo ||| (1 <<< ((nI wv) &&& 31))) (by omega) (by omega) (by rw [bv_bo, ← hbo, hP9, hQ9]; rfl) H _ hP hD hS ls (lv_sub hl [0, 1, 5, 6, 7, 8, 9, 10, 11, 12, 13, 14] rfl)
                                          · exact absurd c257_168 (by decide)
                                      · exact absurd c228_166 (by decide)
                                    · exact absurd c204_165 (by decide)
                                  · refine lv_iload (pc := 202) hx hb dL_build_202 (lv_at hl 4 rfl) ?_
                                    refine lv_if_ne (pc := 204) (tgt := 225) hx hb dL_build_204 (by decide) (fun c204_170 => ?_) (fun c204_170 => ?_)
                                    · refine lv_iload (pc := 225) hx hb dL_build_225 (lv_at hl 4 rfl) ?_
                                      refine lv_iconst (pc := 227) (v := 1) hx hb dL_build_227 (by decide) ?_
                                      refine lv_icmp_ne (pc := 228) (tgt := 249) hx hb dL_build_228 (by decide) (fun c228_171 => ?_) (fun c228_171 => ?_)
                                      · refine lv_iload (pc := 249) hx hb dL_build_249 (lv_at hl 4 rfl) ?_
                                        refine lv_iconst (pc := 251) (v := 2) hx hb dL_build_251 (by decide) ?_
                                        refine lv_icmp_ne (pc := 252) (tgt := 273) hx hb dL_build_252 (by decide) (fun c252_172 => ?_) (fun c252_172 => ?_)
                                        · refine lv_iload (pc := 273) hx hb dL_build_273 (lv_at hl 1 rfl) ?_
                                          refine lv_iload (pc := 275) hx hb dL_build_275 (lv_at hl 0 rfl) ?_
                                          refine lv_icmp_ne (pc := 277) (tgt := 284) hx hb dL_build_277 (by decide) (fun c277_173 => ?_) (fun c277_173 => ?_)
                                          · refine lv_iconst (pc := 284) (v := 0) hx hb dL_build_284 (by decide) ?_
                                            refine lv_istore (pc := 285) (lv' := [(14, .int 0), (13, .int 0), (12, .int 1), (11, .int (nI wv)), (10, .int bo), (9, .int (nI 3)), (8, .int (bv_not (bv_AW a9))), (7, .int (nI a9)), (6, .int y9), (5, .int (nI k)), (4, .int (nI (1 + np0))), (3, .int md), (2, .int (nI pn)), (0, .ref x), (1, .int xx)]) hx hb dL_build_285 hl (by decide) rfl (fun ls hl => ?_)
                                            refine lv_iload (pc := 287) hx hb dL_build_287 (lv_at hl 4 rfl) ?_
                                            refine lv_iload (pc := 289) hx hb dL_build_289 (lv_at hl 0 rfl) ?_
                                            refine lv_if_eq (pc := 291) (tgt := 301) hx hb dL_build_291 (by decide) (fun c291_174 => ?_) (fun c291_174 => ?_)
                                            · refine lv_iconst (pc := 301) (v := 0) hx hb dL_build_301 (by decide) ?_
                                              refine lv_ior (pc := 302) hx hb dL_build_302 ?_
                                              refine lv_istore (pc := 303) (lv' := [(10, .int (bo ||| 0)), (14, .int 0), (13, .int 0), (12, .int 1), (11, .int (nI wv)), (9, .int (nI 3)), (8, .int (bv_not (bv_AW a9))), (7, .int (nI a9)), (6, .int y9), (5, .int (nI k)), (4, .int (nI (1 + np0))), (3, .int md), (2, .int (nI pn)), (0, .ref x), (1, .int xx)]) hx hb dL_build_303 hl (by decide) rfl (fun ls hl => ?_)
                                              refine lv_iinc (pc := 305) (v := (nI (wv + 1))) (lv' := [(11, .int (nI (wv + 1))), (10, .int (bo ||| 0)), (14, .int 0), (13, .int 0), (12, .int 1), (9, .int (nI 3)), (8, .int (bv_not (bv_AW a9))), (7, .int (nI a9)), (6, .int y9), (5, .int (nI k)), (4, .int (nI (1 + np0))), (3, .int md), (2, .int (nI pn)), (0, .ref x), (1, .int xx)]) hx hb dL_build_305 hl (k := 4) rfl (nI_1 wv) (by decide) rfl (fun ls hl => ?_)
                                              refine lv_goto (pc := 308) (tgt := 160) hx hb dL_build_308 (by decide) ?_
                                              exact ih (wv + 1) (bo ||| 0) (by omega) (by omega) (by rw [bv_bo, ← hbo, hP9, hQ9]; rfl) H _ hP hD hS ls (lv_sub hl [0, 1, 5, 6, 7, 8, 9, 10, 11, 12, 13, 14] rfl)
                                            · exact absurd c291_174 (by decide)
                                          · exact absurd c277_173 (by decide)
                                        · exact absurd c252_172 (by decide)
                                      · exact absurd c228_171 (by decide)
                                    · exact absurd c204_170 (by decide)
                                · have hQ9 : bv_has (bv_not (bv_AW a9)) (nI wv) = true := decide_eq_true c192_156
                                  refine lv_iconst (pc := 195) (v := 1) hx hb dL_build_195 (by decide) ?_
                                  refine lv_goto (pc := 196) (tgt := 200) hx hb dL_build_196 (by decide) ?_
                                  refine lv_istore (pc := 200) (lv' := [(13, .int 1), (12, .int 1), (11, .int (nI wv)), (10, .int bo), (9, .int (nI kd)), (8, .int (bv_not (bv_AW a9))), (7, .int (nI a9)), (6, .int y9), (5, .int (nI k)), (4, .int (nI (1 + np0))), (3, .int md), (2, .int (nI pn)), (0, .ref x), (1, .int xx)]) hx hb dL_build_200 hl (by decide) rfl (fun ls hl => ?_)
                                  rcases (show kd = 0 ∨ kd = 1 ∨ kd = 2 ∨ kd = 3 by omega) with rfl | rfl | rfl | rfl
                                  · refine lv_iload (pc := 202) hx hb dL_build_202 (lv_at hl 4 rfl) ?_
                                    refine lv_if_ne (pc := 204) (tgt := 225) hx hb dL_build_204 (by decide) (fun c204_175 => ?_) (fun c204_175 => ?_)
                                    · exact absurd c204_175 (by decide)
                                    · refine lv_iload (pc := 207) hx hb dL_build_207 (lv_at hl 1 rfl) ?_
                                      refine lv_if_eq (pc := 209) (tgt := 221) hx hb dL_build_209 (by decide) (fun c209_176 => ?_) (fun c209_176 => ?_)
                                      · exact absurd c209_176 (by decide)
                                      · refine lv_iload (pc := 212) hx hb dL_build_212 (lv_at hl 0 rfl) ?_
                                        refine lv_if_eq (pc := 214) (tgt := 221) hx hb dL_build_214 (by decide) (fun c214_177 => ?_) (fun c214_177 => ?_)
                                        · exact absurd c214_177 (by decide)
                                        · refine lv_iconst (pc := 217) (v := 1) hx hb dL_build_217 (by decide) ?_
                                          refine lv_goto (pc := 218) (tgt := 285) hx hb dL_build_218 (by decide) ?_
                                          refine lv_istore (pc := 285) (lv' := [(14, .int 1), (13, .int 1), (12, .int 1), (11, .int (nI wv)), (10, .int bo), (9, .int (nI 0)), (8, .int (bv_not (bv_AW a9))), (7, .int (nI a9)), (6, .int y9), (5, .int (nI k)), (4, .int (nI (1 + np0))), (3, .int md), (2, .int (nI pn)), (0, .ref x), (1, .int xx)]) hx hb dL_build_285 hl (by decide) rfl (fun ls hl => ?_)
                                          refine lv_iload (pc := 287) hx hb dL_build_287 (lv_at hl 4 rfl) ?_
                                          refine lv_iload (pc := 289) hx hb dL_build_289 (lv_at hl 0 rfl) ?_
                                          refine lv_if_eq (pc := 291) (tgt := 301) hx hb dL_build_291 (by decide) (fun c291_178 => ?_) (fun c291_178 => ?_)
                                          · exact absurd c291_178 (by decide)
                                          · refine lv_iconst (pc := 294) (v := 1) hx hb dL_build_294 (by decide) ?_
                                            refine lv_iload (pc := 295) hx hb dL_build_295 (lv_at hl 3 rfl) ?_
                                            refine lv_ishl (pc := 297) hx hb dL_build_297 ?_
                                            refine lv_goto (pc := 298) (tgt := 302) hx hb dL_build_298 (by decide) ?_
                                            refine lv_ior (pc := 302) hx hb dL_build_302 ?_
                                            refine lv_istore (pc := 303) (lv' := [(10, .int (bo ||| (1 <<< ((nI wv) &&& 31)))), (14, .int 1), (13, .int 1), (12, .int 1), (11, .int (nI wv)), (9, .int (nI 0)), (8, .int (bv_not (bv_AW a9))), (7, .int (nI a9)), (6, .int y9), (5, .int (nI k)), (4, .int (nI (1 + np0))), (3, .int md), (2, .int (nI pn)), (0, .ref x), (1, .int xx)]) hx hb dL_build_303 hl (by decide) rfl (fun ls hl => ?_)
                                            refine lv_iinc (pc := 305) (v := (nI (wv + 1))) (lv' := [(11, .int (nI (wv + 1))), (10, .int (bo ||| (1 <<< ((nI wv) &&& 31)))), (14, .int 1), (13, .int 1), (12, .int 1), (9, .int (nI 0)), (8, .int (bv_not (bv_AW a9))), (7, .int (nI a9)), (6, .int y9), (5, .int (nI k)), (4, .int (nI (1 + np0))), (3, .int md), (2, .int (nI pn)), (0, .ref x), (1, .int xx)]) hx hb dL_build_305 hl (k := 4) rfl (nI_1 wv) (by decide) rfl (fun ls hl => ?_)
                                            refine lv_goto (pc := 308) (tgt := 160) hx hb dL_build_308 (by decide) ?_
                                            exact ih (wv + 1) (bo ||| (1 <<< ((nI wv) &&& 31))) (by omega) (by omega) (by rw [bv_bo, ← hbo, hP9, hQ9]; rfl) H _ hP hD hS ls (lv_sub hl [0, 1, 5, 6, 7, 8, 9, 10, 11, 12, 13, 14] rfl)
                                  · refine lv_iload (pc := 202) hx hb dL_build_202 (lv_at hl 4 rfl) ?_
                                    refine lv_if_ne (pc := 204) (tgt := 225) hx hb dL_build_204 (by decide) (fun c204_179 => ?_) (fun c204_179 => ?_)
                                    · refine lv_iload (pc := 225) hx hb dL_build_225 (lv_at hl 4 rfl) ?_
                                      refine lv_iconst (pc := 227) (v := 1) hx hb dL_build_227 (by decide) ?_
                                      refine lv_icmp_ne (pc := 228) (tgt := 249) hx hb dL_build_228 (by decide) (fun c228_180 => ?_) (fun c228_180 => ?_)
                                      · exact absurd c228_180 (by decide)
                                      · refine lv_iload (pc := 231) hx hb dL_build_231 (lv_at hl 1 rfl) ?_
                                        refine lv_if_ne (pc := 233) (tgt := 241) hx hb dL_build_233 (by decide) (fun c233_181 => ?_) (fun c233_181 => ?_)
                                        · refine lv_iconst (pc := 241) (v := 1) hx hb dL_build_241 (by decide) ?_
                                          refine lv_goto (pc := 242) (tgt := 285) hx hb dL_build_242 (by decide) ?_
                                          refine lv_istore (pc := 285) (lv' := [(14, .int 1), (13, .int 1), (12, .int 1), (11, .int (nI wv)), (10, .int bo), (9, .int (nI 1)), (8, .int (bv_not (bv_AW a9))), (7, .int (nI a9)), (6, .int y9), (5, .int (nI k)), (4, .int (nI (1 + np0))), (3, .int md), (2, .int (nI pn)), (0, .ref x), (1, .int xx)]) hx hb dL_build_285 hl (by decide) rfl (fun ls hl => ?_)
                                          refine lv_iload (pc := 287) hx hb dL_build_287 (lv_at hl 4 rfl) ?_
                                          refine lv_iload (pc := 289) hx hb dL_build_289 (lv_at hl 0 rfl) ?_
                                          refine lv_if_eq (pc := 291) (tgt := 301) hx hb dL_build_291 (by decide) (fun c291_182 => ?_) (fun c291_182 => ?_)
                                          · exact absurd c291_182 (by decide)
                                          · refine lv_iconst (pc := 294) (v := 1) hx hb dL_build_294 (by decide) ?_
                                            refine lv_iload (pc := 295) hx hb dL_build_295 (lv_at hl 3 rfl) ?_
                                            refine lv_ishl (pc := 297) hx hb dL_build_297 ?_
                                            refine lv_goto (pc := 298) (tgt := 302) hx hb dL_build_298 (by decide) ?_
                                            refine lv_ior (pc := 302) hx hb dL_build_302 ?_
                                            refine lv_istore (pc := 303) (lv' := [(10, .int (bo ||| (1 <<< ((nI wv) &&& 31)))), (14, .int 1), (13, .int 1), (12, .int 1), (11, .int (nI wv)), (9, .int (nI 1)), (8, .int (bv_not (bv_AW a9))), (7, .int (nI a9)), (6, .int y9), (5, .int (nI k)), (4, .int (nI (1 + np0))), (3, .int md), (2, .int (nI pn)), (0, .ref x), (1, .int xx)]) hx hb dL_build_303 hl (by decide) rfl (fun ls hl => ?_)
                                            refine lv_iinc (pc := 305) (v := (nI (wv + 1))) (lv' := [(11, .int (nI (wv + 1))), (10, .int (bo ||| (1 <<< ((nI wv) &&& 31)))), (14, .int 1), (13, .int 1), (12, .int 1), (9, .int (nI 1)), (8, .int (bv_not (bv_AW a9))), (7, .int (nI a9)), (6, .int y9), (5, .int (nI k)), (4, .int (nI (1 + np0))), (3, .int md), (2, .int (nI pn)), (0, .ref x), (1, .int xx)]) hx hb dL_build_305 hl (k := 4) rfl (nI_1 wv) (by decide) rfl (fun ls hl => ?_)
                                            refine lv_goto (pc := 308) (tgt := 160) hx hb dL_build_308 (by decide) ?_
                                            exact ih (wv + 1) (bo ||| (1 <<< ((nI wv) &&& 31))) (by omega) (by omega) (by rw [bv_bo, ← hbo, hP9, hQ9]; rfl) H _ hP hD hS ls (lv_sub hl [0, 1, 5, 6, 7, 8, 9, 10, 11, 12, 13, 14] rfl)
                                        · exact absurd c233_181 (by decide)
                                    · exact absurd c204_179 (by decide)
                                  · refine lv_iload (pc := 202) hx hb dL_build_202 (lv_at hl 4 rfl) ?_
                                    refine lv_if_ne (pc := 204) (tgt := 225) hx hb dL_build_204 (by decide) (fun c204_183 => ?_) (fun c204_183 => ?_)
                                    · refine lv_iload (pc := 225) hx hb dL_build_225 (lv_at hl 4 rfl) ?_
                                      refine lv_iconst (pc := 227) (v := 1) hx hb dL_build_227 (by decide) ?_
                                      refine lv_icmp_ne (pc := 228) (tgt := 249) hx hb dL_build_228 (by decide) (fun c228_184 => ?_) (fun c228_184 => ?_)
                                      · refine lv_iload (pc := 249) hx hb dL_build_249 (lv_at hl 4 rfl) ?_
                                        refine lv_iconst (pc := 251) (v := 2) hx hb dL_build_251 (by decide) ?_
                                        refine lv_icmp_ne (pc := 252) (tgt := 273) hx hb dL_build_252 (by decide) (fun c252_185 => ?_) (fun c252_185 => ?_)
                                        · exact absurd c252_185 (by decide)
                                        · refine lv_iload (pc := 255) hx hb dL_build_255 (lv_at hl 1 rfl) ?_
                                          refine lv_if_ne (pc := 257) (tgt := 265) hx hb dL_build_257 (by decide) (fun c257_186 => ?_) (fun c257_186 => ?_)
                                          · refine lv_iconst (pc := 265) (v := 1) hx hb dL_build_265 (by decide) ?_
                                            refine lv_goto (pc := 266) (tgt := 285) hx hb dL_build_266 (by decide) ?_
                                            refine lv_istore (pc := 285) (lv' := [(14, .int 1), (13, .int 1), (12, .int 1), (11, .int (nI wv)), (10, .int bo), (9, .int (nI 2)), (8, .int (bv_not (bv_AW a9))), (7, .int (nI a9)), (6, .int y9), (5, .int (nI k)), (4, .int (nI (1 + np0))), (3, .int md), (2, .int (nI pn)), (0, .ref x), (1, .int xx)]) hx hb dL_build_285 hl (by decide) rfl (fun ls hl => ?_)
                                            refine lv_iload (pc := 287) hx hb dL_build_287 (lv_at hl 4 rfl) ?_
                                            refine lv_iload (pc := 289) hx hb dL_build_289 (lv_at hl 0 rfl) ?_
                                            refine lv_if_eq (pc := 291) (tgt := 301) hx hb dL_build_291 (by decide) (fun c291_187 => ?_) (fun c291_187 => ?_)
                                            · exact absurd c291_187 (by decide)
                                            · refine lv_iconst (pc := 294) (v := 1) hx hb dL_build_294 (by decide) ?_
                                              refine lv_iload (pc := 295) hx hb dL_build_295 (lv_at hl 3 rfl) ?_
                                              refine lv_ishl (pc := 297) hx hb dL_build_297 ?_
                                              refine lv_goto (pc := 298) (tgt := 302) hx hb dL_build_298 (by decide) ?_
                                              refine lv_ior (pc := 302) hx hb dL_build_302 ?_
                                              refine lv_istore (pc := 303) (lv' := [(10, .int (bo ||| (1 <<< ((nI wv) &&& 31)))), (14, .int 1), (13, .int 1), (12, .int 1), (11, .int (nI wv)), (9, .int (nI 2)), (8, .int (bv_not (bv_AW a9))), (7, .int (nI a9)), (6, .int y9), (5, .int (nI k)), (4, .int (nI (1 + np0))), (3, .int md), (2, .int (nI pn)), (0, .ref x), (1, .int xx)]) hx hb dL_build_303 hl (by decide) rfl (fun ls hl => ?_)
                                              refine lv_iinc (pc := 305) (v := (nI (wv + 1))) (lv' := [(11, .int (nI (wv + 1))), (10, .int (bo ||| (1 <<< ((nI wv) &&& 31)))), (14, .int 1), (13, .int 1), (12, .int 1), (9, .int (nI 2)), (8, .int (bv_not (bv_AW a9))), (7, .int (nI a9)), (6, .int y9), (5, .int (nI k)), (4, .int (nI (1 + np0))), (3, .int md), (2, .int (nI pn)), (0, .ref x), (1, .int xx)]) hx hb dL_build_305 hl (k := 4) rfl (nI_1 wv) (by decide) rfl (fun ls hl => ?_)
                                              refine lv_goto (pc := 308) (tgt := 160) hx hb dL_build_308 (by decide) ?_
                                              exact ih (wv + 1) (bo ||| (1 <<< ((nI wv) &&& 31))) (by omega) (by omega) (by rw [bv_bo, ← hbo, hP9, hQ9]; rfl) H _ hP hD hS ls (lv_sub hl [0, 1, 5, 6, 7, 8, 9, 10, 11, 12, 13, 14] rfl)
                                          · exact absurd c257_186 (by decide)
                                      · exact absurd c228_184 (by decide)
                                    · exact absurd c204_183 (by decide)
                                  · refine lv_iload (pc := 202) hx hb dL_build_202 (lv_at hl 4 rfl) ?_
                                    refine lv_if_ne (pc := 204) (tgt := 225) hx hb dL_build_204 (by decide) (fun c204_188 => ?_) (fun c204_188 => ?_)
                                    · refine lv_iload (pc := 225) hx hb dL_build_225 (lv_at hl 4 rfl) ?_
                                      refine lv_iconst (pc := 227) (v := 1) hx hb dL_build_227 (by decide) ?_
                                      refine lv_icmp_ne (pc := 228) (tgt := 249) hx hb dL_build_228 (by decide) (fun c228_189 => ?_) (fun c228_189 => ?_)
                                      · refine lv_iload (pc := 249) hx hb dL_build_249 (lv_at hl 4 rfl) ?_
                                        refine lv_iconst (pc := 251) (v := 2) hx hb dL_build_251 (by decide) ?_
                                        refine lv_icmp_ne (pc := 252) (tgt := 273) hx hb dL_build_252 (by decide) (fun c252_190 => ?_) (fun c252_190 => ?_)
                                        · refine lv_iload (pc := 273) hx hb dL_build_273 (lv_at hl 1 rfl) ?_
                                          refine lv_iload (pc := 275) hx hb dL_build_275 (lv_at hl 0 rfl) ?_
                                          refine lv_icmp_ne (pc := 277) (tgt := 284) hx hb dL_build_277 (by decide) (fun c277_191 => ?_) (fun c277_191 => ?_)
                                          · exact absurd c277_191 (by decide)
                                          · refine lv_iconst (pc := 280) (v := 1) hx hb dL_build_280 (by decide) ?_
                                            refine lv_goto (pc := 281) (tgt := 285) hx hb dL_build_281 (by decide) ?_
                                            refine lv_istore (pc := 285) (lv' := [(14, .int 1), (13, .int 1), (12, .int 1), (11, .int (nI wv)), (10, .int bo), (9, .int (nI 3)), (8, .int (bv_not (bv_AW a9))), (7, .int (nI a9)), (6, .int y9), (5, .int (nI k)), (4, .int (nI (1 + np0))), (3, .int md), (2, .int (nI pn)), (0, .ref x), (1, .int xx)]) hx hb dL_build_285 hl (by decide) rfl (fun ls hl => ?_)
                                            refine lv_iload (pc := 287) hx hb dL_build_287 (lv_at hl 4 rfl) ?_
                                            refine lv_iload (pc := 289) hx hb dL_build_289 (lv_at hl 0 rfl) ?_
                                            refine lv_if_eq (pc := 291) (tgt := 301) hx hb dL_build_291 (by decide) (fun c291_192 => ?_) (fun c291_192 => ?_)
                                            · exact absurd c291_192 (by decide)
                                            · refine lv_iconst (pc := 294) (v := 1) hx hb dL_build_294 (by decide) ?_
                                              refine lv_iload (pc := 295) hx hb dL_build_295 (lv_at hl 3 rfl) ?_
                                              refine lv_ishl (pc := 297) hx hb dL_build_297 ?_
                                              refine lv_goto (pc := 298) (tgt := 302) hx hb dL_build_298 (by decide) ?_
                                              refine lv_ior (pc := 302) hx hb dL_build_302 ?_
                                              refine lv_istore (pc := 303) (lv' := [(10, .int (bo ||| (1 <<< ((nI wv) &&& 31)))), (14, .int 1), (13, .int 1), (12, .int 1), (11, .int (nI wv)), (9, .int (nI 3)), (8, .int (bv_not (bv_AW a9))), (7, .int (nI a9)), (6, .int y9), (5, .int (nI k)), (4, .int (nI (1 + np0))), (3, .int md), (2, .int (nI pn)), (0, .ref x), (1, .int xx)]) hx hb dL_build_303 hl (by decide) rfl (fun ls hl => ?_)
                                              refine lv_iinc (pc := 305) (v := (nI (wv + 1))) (lv' := [(11, .int (nI (wv + 1))), (10, .int (bo ||| (1 <<< ((nI wv) &&& 31)))), (14, .int 1), (13, .int 1), (12, .int 1), (9, .int (nI 3)), (8, .int (bv_not (bv_AW a9))), (7, .int (nI a9)), (6, .int y9), (5, .int (nI k)), (4, .int (nI (1 + np0))), (3, .int md), (2, .int (nI pn)), (0, .ref x), (1, .int xx)]) hx hb dL_build_305 hl (k := 4) rfl (nI_1 wv) (by decide) rfl (fun ls hl => ?_)
                                              refine lv_goto (pc := 308) (tgt := 160) hx hb dL_build_308 (by decide) ?_
                                              exact ih (wv + 1) (bo ||| (1 <<< ((nI wv) &&& 31))) (by omega) (by omega) (by rw [bv_bo, ← hbo, hP9, hQ9]; rfl) H _ hP hD hS ls (lv_sub hl [0, 1, 5, 6, 7, 8, 9, 10, 11, 12, 13, 14] rfl)
                                        · exact absurd c252_190 (by decide)
                                      · exact absurd c228_189 (by decide)
                                    · exact absurd c204_188 (by decide)
                        exact loop_160 (16 - 0 + 1) 0 0 (Nat.lt_succ_self _) (by omega) rfl H _ hP hD hS ls (lv_sub hl [0, 1, 2, 3, 4, 5, 6, 7, 8, 9, 10, 11] rfl)
                      · exact absurd ((nI_eq (b := 0) (by omega) (by decide)).mp c135_109) hk0
                    · exact absurd rfl c128_108
                · exact absurd (by first | (rw [nI_1, Int32.add_zero]) | (rw [nI_1, nI_1])) c99_18
              · have hk0 : k = 0 := (nI_eq (b := 0) (by omega) (by decide)).mp c90_17
                have hzp : pn = z := by
                  rcases hz with h | h
                  · exact h.2.symm
                  · have := h.1; omega
                subst hzp
                subst hk0
                refine lv_iconst (pc := 93) (v := 0) hx hb dL_build_93 (by decide) ?_
                refine lv_goto (pc := 94) (tgt := 98) hx hb dL_build_94 (by decide) ?_
                refine lv_iadd (pc := 98) hx hb dL_build_98 ?_
                refine lv_icmp_eq (pc := 99) (tgt := 104) hx hb dL_build_99 (by decide) (fun c99_193 => ?_) (fun c99_193 => ?_)
                · refine lv_iload (pc := 104) hx hb dL_build_104 (lv_at hl 3 rfl) ?_
                  refine lv_iconst (pc := 106) (v := 2) hx hb dL_build_106 (by decide) ?_
                  refine lv_ishr (pc := 107) hx hb dL_build_107 ?_
                  refine lv_iconst (pc := 108) (v := 2) hx hb dL_build_108 (by decide) ?_
                  have hPc := hP.sub (ws' := []) [] rfl
                  refine vp_callSi (pc := 109) (va_Run.run (va_runS (As := [.int (y9 >>> (2 &&& 31)), .int 2]) (rest := []) ⟨hx, hb, hml, hown, hts⟩ (m_L_below l G cI (y9 >>> (2 &&& 31)) 2 (by decide) (by decide)) (va_cwS 2 hts gL_build_L_below rfl rfl rfl (by decide +kernel) ⟨Nat.le_of_ble_eq_true rfl, Nat.le_of_ble_eq_true rfl⟩) (bv_pS hE hPc) rfl rfl hl.1 rfl (lv_room (Nat.le_of_ble_eq_true rfl)) dL_build_109 ⟨Nat.le_of_ble_eq_true rfl, Nat.le_of_ble_eq_true rfl⟩)) (fun r_194 e_195 => ?_)
                  obtain ⟨b9, hb9, rfl⟩ := e_195
                  have hb9 : b9 < 2 := hb9
                  refine lv_if_ne (pc := 112) (tgt := 133) hx hb dL_build_112 (by decide) (fun c112_196 => ?_) (fun c112_196 => ?_)
                  · refine lv_iload (pc := 133) hx hb dL_build_133 (lv_at hl 4 rfl) ?_
                    refine lv_if_ne (pc := 135) (tgt := 144) hx hb dL_build_135 (by decide) (fun c135_197 => ?_) (fun c135_197 => ?_)
                    · exact absurd rfl c135_197
                    · refine lv_iload (pc := 138) hx hb dL_build_138 (lv_at hl 1 rfl) ?_
                      refine lv_istore_n (pc := 140) (lv' := [(3, .int (bv_AW a9)), (9, .int (nI 16)), (8, .int (bv_AW a9)), (7, .int (nI a9)), (6, .int y9), (5, .int (nI 0)), (4, .int (nI (1 + np0))), (2, .int (nI pn)), (0, .ref x), (1, .int xx)]) hx hb dL_build_140 rfl hl (by decide) rfl (fun ls hl => ?_)
                      refine lv_goto (pc := 141) (tgt := 327) hx hb dL_build_141 (by decide) ?_
                      refine lv_iinc (pc := 327) (v := (nI (0 + 1))) (lv' := [(5, .int (nI (0 + 1))), (3, .int (bv_AW a9)), (9, .int (nI 16)), (8, .int (bv_AW a9)), (7, .int (nI a9)), (6, .int y9), (4, .int (nI (1 + np0))), (2, .int (nI pn)), (0, .ref x), (1, .int xx)]) hx hb dL_build_327 hl (k := 5) rfl (nI_1 0) (by decide) rfl (fun ls hl => ?_)
                      refine lv_goto (pc := 330) (tgt := 19) hx hb dL_build_330 (by decide) ?_
                      exact ih_19 (0 + 1) (pn + 1) (bv_AW a9) (upd f1 pn (bv_AW a9)) (by omega) (by omega) (Or.inr ⟨by omega, rfl, (by first | exact bv_AW16 a9 ha9 | exact bv_not16 _), bv_upd1⟩) (fun j hj => by rw [bv_updO (by omega)]; exact hpre j hj) H _ hP hD hS ls (lv_sub hl [0, 6, 1, 7, 8, 9] rfl)
                  · refine lv_ldc (pc := 115) hx hb hown hw1 dL_build_115 ?_
                    refine lv_iload (pc := 117) hx hb dL_build_117 (lv_at hl 1 rfl) ?_
                    refine lv_isub (pc := 119) hx hb dL_build_119 ?_
                    rw [show (65535 - (bv_AW a9)) = (bv_not (bv_AW a9)) from bv_AWn a9 ha9]
                    refine lv_istore (pc := 120) (lv' := [(8, .int (bv_not (bv_AW a9))), (9, .int (nI 16)), (7, .int (nI a9)), (6, .int y9), (5, .int (nI 0)), (4, .int (nI (1 + np0))), (3, .int md), (2, .int (nI pn)), (0, .ref x), (1, .int xx)]) hx hb dL_build_120 hl (by decide) rfl (fun ls hl => ?_)
                    refine lv_aload_n (pc := 122) hx hb dL_build_122 rfl (lv_at hl 8 rfl) ?_
                    have hPc := hP.sub (ws' := [(x, .inr (3, [.ref xp, .ref xb, .ref xm])), (xp, .inr (2, [.ref ap, .int (nI (pn + 1))])), (ap, .inl (cI, 12, .inl (upd f1 pn (bv_AW a9)))), (xb, .inr (0, [.ref as, .ref ar, .ref am, .int (nI bn)])), (as, .inl (cI, 10, .inl bs)), (ar, .inl (cI, 10, .inl br)), (am, .inl (cI, 1024, .inl mt)), (xm, .inr (1, [.ref al, .ref ak])), (al, .inl (cI, 16, .inl lv)), (ak, .inl (cI, 16, .inl ks))]) [0, 1, 2, 3, 4, 5, 6, 7, 8, 9] rfl
                    have hDc := hD.sub (ws' := [(x, .inr (3, [.ref xp, .ref xb, .ref xm])), (xp, .inr (2, [.ref ap, .int (nI (pn + 1))])), (ap, .inl (cI, 12, .inl (upd f1 pn (bv_AW a9)))), (xb, .inr (0, [.ref as, .ref ar, .ref am, .int (nI bn)])), (as, .inl (cI, 10, .inl bs)), (ar, .inl (cI, 10, .inl br)), (am, .inl (cI, 1024, .inl mt)), (xm, .inr (1, [.ref al, .ref ak])), (al, .inl (cI, 16, .inl lv)), (ak, .inl (cI, 16, .inl ks))]) [0, 1, 2, 3, 4, 5, 6, 7, 8, 9] (by decide) rfl
                    have hFc := va_free (wc := [(x, .inr (3, [.ref xp, .ref xb, .ref xm])), (xp, .inr (2, [.ref ap, .int (nI (pn + 1))])), (ap, .inl (cI, 12, .inl (upd f1 pn (bv_AW a9)))), (xb, .inr (0, [.ref as, .ref ar, .ref am, .int (nI bn)])), (as, .inl (cI, 10, .inl bs)), (ar, .inl (cI, 10, .inl br)), (am, .inl (cI, 1024, .inl mt)), (xm, .inr (1, [.ref al, .ref ak])), (al, .inl (cI, 16, .inl lv)), (ak, .inl (cI, 16, .inl ks))]) hD hS hA [0, 1, 2, 3, 4, 5, 6, 7, 8, 9] rfl
                    refine bv_cMi (pc := 123) (E' := (bv_not (bv_AW a9))) (va_runV (As := []) (rest := []) ⟨hx, hb, hml, hown, hts⟩ (m_X3_negate l G cI H.size x xp ap (pn + 1) xb as ar am bn xm al ak (upd f1 pn (bv_AW a9)) bs br mt lv ks (by omega) hn hM (by omega)) (cwV 0 hts gL_build_X3_negate rfl rfl rfl (by decide +kernel) ⟨Nat.le_of_ble_eq_true rfl, Nat.le_of_ble_eq_true rfl⟩) (bv_pV hE ⟨rfl, hPc, hDc.weaken (fun _ _ _ _ => trivial)⟩ (va_recv hK hP (ci := 3) (q0 := 0) rfl rfl)) rfl rfl hl.1 rfl (lv_room (Nat.le_of_ble_eq_true rfl)) dL_build_123 ⟨Nat.le_of_ble_eq_true rfl, Nat.le_of_ble_eq_true rfl⟩) hS (fun q _ h => hFc q h) hFc (by rw [bv_updS]) (fun t8 H1 locs ht8 hvm8 hB8 hz1 hk1 hS => ?_)
                    have hP1 : va_P G vwCl [(x, .inr (3, [.ref xp, .ref xb, .ref xm])), (xp, .inr (2, [.ref ap, .int (nI (pn + 1))])), (ap, .inl (cI, 12, .inl (upd (upd f1 pn (bv_AW a9)) ((pn + 1) - 1) (bv_not ((upd f1 pn (bv_AW a9)) ((pn + 1) - 1)))))), (xb, .inr (0, [.ref as, .ref ar, .ref am, .int (nI bn)])), (as, .inl (cI, 10, .inl bs)), (ar, .inl (cI, 10, .inl br)), (am, .inl (cI, 1024, .inl mt)), (xm, .inr (1, [.ref al, .ref ak])), (al, .inl (cI, 16, .inl lv)), (ak, .inl (cI, 16, .inl ks))] H1 := by rw [← ht8]; exact hB8
                    obtain ⟨hP, hD⟩ := va_join (wr := []) (w1 := [(x, .inr (3, [.ref xp, .ref xb, .ref xm])), (xp, .inr (2, [.ref ap, .int (nI (pn + 1))])), (ap, .inl (cI, 12, .inl (upd (upd f1 pn (bv_AW a9)) ((pn + 1) - 1) (bv_not ((upd f1 pn (bv_AW a9)) ((pn + 1) - 1)))))), (xb, .inr (0, [.ref as, .ref ar, .ref am, .int (nI bn)])), (as, .inl (cI, 10, .inl bs)), (ar, .inl (cI, 10, .inl br)), (am, .inl (cI, 1024, .inl mt)), (xm, .inr (1, [.ref al, .ref ak])), (al, .inl (cI, 16, .inl lv)), (ak, .inl (cI, 16, .inl ks))]) hP hD [0, 1, 2, 3, 4, 5, 6, 7, 8, 9] [] rfl rfl (by decide) (by decide) hk1 hFc hP1 (bv_Dm (w0 := [(x, .inr (3, [.ref xp, .ref xb, .ref xm])), (xp, .inr (2, [.ref ap, .int (nI (pn + 1))])), (ap, .inl (cI, 12, .inl (upd f1 pn (bv_AW a9)))), (xb, .inr (0, [.ref as, .ref ar, .ref am, .int (nI bn)])), (as, .inl (cI, 10, .inl bs)), (ar, .inl (cI, 10, .inl br)), (am, .inl (cI, 1024, .inl mt)), (xm, .inr (1, [.ref al, .ref ak])), (al, .inl (cI, 16, .inl lv)), (ak, .inl (cI, 16, .inl ks))]) [x, xp, ap, xb, as, ar, am, xm, al, ak] rfl rfl hDc.self)
                    have hP : va_P G vwCl [(x, .inr (3, [.ref xp, .ref xb, .ref xm])), (xp, .inr (2, [.ref ap, .int (nI (pn + 1))])), (ap, .inl (cI, 12, .inl (upd (upd f1 pn (bv_AW a9)) ((pn + 1) - 1) (bv_not ((upd f1 pn (bv_AW a9)) ((pn + 1) - 1)))))), (xb, .inr (0, [.ref as, .ref ar, .ref am, .int (nI bn)])), (as, .inl (cI, 10, .inl bs)), (ar, .inl (cI, 10, .inl br)), (am, .inl (cI, 1024, .inl mt)), (xm, .inr (1, [.ref al, .ref ak])), (al, .inl (cI, 16, .inl lv)), (ak, .inl (cI, 16, .inl ks))] H1 := hP.sub (ws' := [(x, .inr (3, [.ref xp, .ref xb, .ref xm])), (xp, .inr (2, [.ref ap, .int (nI (pn + 1))])), (ap, .inl (cI, 12, .inl (upd (upd f1 pn (bv_AW a9)) ((pn + 1) - 1) (bv_not ((upd f1 pn (bv_AW a9)) ((pn + 1) - 1)))))), (xb, .inr (0, [.ref as, .ref ar, .ref am, .int (nI bn)])), (as, .inl (cI, 10, .inl bs)), (ar, .inl (cI, 10, .inl br)), (am, .inl (cI, 1024, .inl mt)), (xm, .inr (1, [.ref al, .ref ak])), (al, .inl (cI, 16, .inl lv)), (ak, .inl (cI, 16, .inl ks))]) [0, 1, 2, 3, 4, 5, 6, 7, 8, 9] rfl
                    have hD : va_D A [(x, .inr (3, [.ref xp, .ref xb, .ref xm])), (xp, .inr (2, [.ref ap, .int (nI (pn + 1))])), (ap, .inl (cI, 12, .inl (upd (upd f1 pn (bv_AW a9)) ((pn + 1) - 1) (bv_not ((upd f1 pn (bv_AW a9)) ((pn + 1) - 1)))))), (xb, .inr (0, [.ref as, .ref ar, .ref am, .int (nI bn)])), (as, .inl (cI, 10, .inl bs)), (ar, .inl (cI, 10, .inl br)), (am, .inl (cI, 1024, .inl mt)), (xm, .inr (1, [.ref al, .ref ak])), (al, .inl (cI, 16, .inl lv)), (ak, .inl (cI, 16, .inl ks))] := hD.sub (ws' := [(x, .inr (3, [.ref xp, .ref xb, .ref xm])), (xp, .inr (2, [.ref ap, .int (nI (pn + 1))])), (ap, .inl (cI, 12, .inl (upd (upd f1 pn (bv_AW a9)) ((pn + 1) - 1) (bv_not ((upd f1 pn (bv_AW a9)) ((pn + 1) - 1)))))), (xb, .inr (0, [.ref as, .ref ar, .ref am, .int (nI bn)])), (as, .inl (cI, 10, .inl bs)), (ar, .inl (cI, 10, .inl br)), (am, .inl (cI, 1024, .inl mt)), (xm, .inr (1, [.ref al, .ref ak])), (al, .inl (cI, 16, .inl lv)), (ak, .inl (cI, 16, .inl ks))]) [0, 1, 2, 3, 4, 5, 6, 7, 8, 9] (by decide) rfl
                    generalize H1 = H at hP hS ⊢
                    rw [show (upd (upd f1 pn (bv_AW a9)) ((pn + 1) - 1) (bv_not ((upd f1 pn (bv_AW a9)) ((pn + 1) - 1)))) = (upd f1 pn (bv_not (bv_AW a9))) from by rw [bv_updS, bv_updN]] at hP hD
                    refine lv_iload (pc := 126) hx hb dL_build_126 (lv_at hl 0 rfl) ?_
                    refine lv_icmp_eq (pc := 128) (tgt := 133) hx hb dL_build_128 (by decide) (fun c128_200 => ?_) (fun c128_200 => ?_)
                    · refine lv_iload (pc := 133) hx hb dL_build_133 (lv_at hl 4 rfl) ?_
                      refine lv_if_ne (pc := 135) (tgt := 144) hx hb dL_build_135 (by decide) (fun c135_201 => ?_) (fun c135_201 => ?_)
                      · exact absurd rfl c135_201
                      · refine lv_iload (pc := 138) hx hb dL_build_138 (lv_at hl 0 rfl) ?_
                        refine lv_istore_n (pc := 140) (lv' := [(3, .int (bv_not (bv_AW a9))), (8, .int (bv_not (bv_AW a9))), (9, .int (nI 16)), (7, .int (nI a9)), (6, .int y9), (5, .int (nI 0)), (4, .int (nI (1 + np0))), (2, .int (nI pn)), (0, .ref x), (1, .int xx)]) hx hb dL_build_140 rfl hl (by decide) rfl (fun ls hl => ?_)
                        refine lv_goto (pc := 141) (tgt := 327) hx hb dL_build_141 (by decide) ?_
                        refine lv_iinc (pc := 327) (v := (nI (0 + 1))) (lv' := [(5, .int (nI (0 + 1))), (3, .int (bv_not (bv_AW a9))), (8, .int (bv_not (bv_AW a9))), (9, .int (nI 16)), (7, .int (nI a9)), (6, .int y9), (4, .int (nI (1 + np0))), (2, .int (nI pn)), (0, .ref x), (1, .int xx)]) hx hb dL_build_327 hl (k := 5) rfl (nI_1 0) (by decide) rfl (fun ls hl => ?_)
                        refine lv_goto (pc := 330) (tgt := 19) hx hb dL_build_330 (by decide) ?_
                        exact ih_19 (0 + 1) (pn + 1) (bv_not (bv_AW a9)) (upd f1 pn (bv_not (bv_AW a9))) (by omega) (by omega) (Or.inr ⟨by omega, rfl, (by first | exact bv_AW16 a9 ha9 | exact bv_not16 _), bv_upd1⟩) (fun j hj => by rw [bv_updO (by omega)]; exact hpre j hj) H _ hP hD hS ls (lv_sub hl [0, 6, 1, 7, 8, 9] rfl)
                    · exact absurd rfl c128_200
                · exact absurd (by first | (rw [nI_1, Int32.add_zero]) | (rw [nI_1, nI_1])) c99_193
            · have hw6 : wv < 16 := by
                by_cases h : wv < 16
                · exact h
                · exact absurd (show nI 16 ≤ nI wv from nI_le (by omega) (by omega)) c55_14
              refine lv_iload (pc := 58) hx hb dL_build_58 (lv_at hl 1 rfl) ?_
              refine lv_iload (pc := 60) hx hb dL_build_60 (lv_at hl 0 rfl) ?_
              refine lv_iload (pc := 62) hx hb dL_build_62 (lv_at hl 2 rfl) ?_
              refine lv_ishr (pc := 64) hx hb dL_build_64 ?_
              refine lv_iconst (pc := 65) (v := 1) hx hb dL_build_65 (by decide) ?_
              refine lv_iand (pc := 66) hx hb dL_build_66 ?_
              refine lv_iload (pc := 67) hx hb dL_build_67 (lv_at hl 0 rfl) ?_
              refine lv_ishl (pc := 69) hx hb dL_build_69 ?_
              refine lv_ior (pc := 70) hx hb dL_build_70 ?_
              refine lv_istore (pc := 71) (lv' := [(8, .int (wo ||| ((((nI wv) >>> ((nI a9) &&& 31)) &&& 1) <<< ((nI wv) &&& 31)))), (9, .int (nI wv)), (7, .int (nI a9)), (6, .int y9), (5, .int (nI k)), (4, .int (nI (1 + np0))), (3, .int md), (2, .int (nI pn)), (0, .ref x), (1, .int xx)]) hx hb dL_build_71 hl (by decide) rfl (fun ls hl => ?_)
              refine lv_iinc (pc := 73) (v := (nI (wv + 1))) (lv' := [(9, .int (nI (wv + 1))), (8, .int (wo ||| ((((nI wv) >>> ((nI a9) &&& 31)) &&& 1) <<< ((nI wv) &&& 31)))), (7, .int (nI a9)), (6, .int y9), (5, .int (nI k)), (4, .int (nI (1 + np0))), (3, .int md), (2, .int (nI pn)), (0, .ref x), (1, .int xx)]) hx hb dL_build_73 hl (k := 1) rfl (nI_1 wv) (by decide) rfl (fun ls hl => ?_)
              refine lv_goto (pc := 76) (tgt := 51) hx hb dL_build_76 (by decide) ?_
              exact ih (wv + 1) (wo ||| ((((nI wv) >>> ((nI a9) &&& 31)) &&& 1) <<< ((nI wv) &&& 31))) (by omega) (by omega) (by rw [bv_awl, ← hwo]) H _ hP hD hS ls (lv_sub hl [0, 1, 2, 3, 4, 5, 6, 7, 8, 9] rfl)
        exact loop_51 (16 - 0 + 1) 0 0 (Nat.lt_succ_self _) (by omega) rfl H _ hP hD hS ls (lv_sub hl [0, 1, 2, 3, 4, 5, 6, 7, 8, 9] rfl)
  exact loop_19 (1 + np0 - 0 + 1) 0 pn (-1) pf (Nat.lt_succ_self _) (Nat.zero_le _) (Or.inl ⟨rfl, rfl⟩) (fun _ _ => rfl) s.heap _ hP hD hS ls (lv_sub hl [0, 1, 2, 3, 4, 5] rfl)
