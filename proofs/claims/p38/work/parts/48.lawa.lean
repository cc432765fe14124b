/-! The law's stretches: what is given. -/
def bv_LC (p : Program) (s : State) (m : MethodId) (c : Code) (b L : Nat) (xs : Nat → Int32) (G : va_G) (cI : ClassId) (A : Nat → Prop) : Prop := p.tables.exec = Jvm.exec ∧ c.code = cL_law ∧ c.maxLocals = 18 ∧ s.vm.findClass RL = some m.cls ∧ (∀ w ∈ wsL_law, w.before #[Value.ref b] s = true) ∧ va_X b L xs s s.heap ∧ b < s.heap.size ∧ ¬ A b ∧ (∀ q : Nat, s.heap.size ≤ q → A q) ∧ bv_XA A s s.heap ∧ bv_E G cI s ∧ L ≤ 260

set_option maxHeartbeats 4000000 in
set_option maxRecDepth 100000 in
theorem bv_segB {l : Launch} {p : Program} {e : Env} {s : State} {m : MethodId} {below : List Frame} {meth : Method} {c : Code} {Q : State → Prop} {b L : Nat} {xs : Nat → Int32} {G : va_G} {cI : ClassId} {A : Nat → Prop} (hC : bv_LC p s m c b L xs G cI A) {x xp ap xb as ar am xm al ak : Nat} {qa bn : Nat} {pf bs br mt lv ks : Nat → Int32} {g : Int32} (hn7 : bn ≤ 7) (hB : bv_bsB bn bs br mt) (hg : g &&& 65535 = g) (hpf : pf 0 = g) {H : Heap} {locs : List Loc} (hP : va_P G vwCl [(x, .inr (3, [.ref xp, .ref xb, .ref xm])), (xp, .inr (2, [.ref ap, .int (nI 1)])), (ap, .inl (cI, 12, .inl pf)), (xb, .inr (0, [.ref as, .ref ar, .ref am, .int (nI bn)])), (as, .inl (cI, 10, .inl bs)), (ar, .inl (cI, 10, .inl br)), (am, .inl (cI, 1024, .inl mt)), (xm, .inr (1, [.ref al, .ref ak])), (al, .inl (cI, 16, .inl lv)), (ak, .inl (cI, 16, .inl ks))] H) (hD : va_D A [(x, .inr (3, [.ref xp, .ref xb, .ref xm])), (xp, .inr (2, [.ref ap, .int (nI 1)])), (ap, .inl (cI, 12, .inl pf)), (xb, .inr (0, [.ref as, .ref ar, .ref am, .int (nI bn)])), (as, .inl (cI, 10, .inl bs)), (ar, .inl (cI, 10, .inl br)), (am, .inl (cI, 1024, .inl mt)), (xm, .inr (1, [.ref al, .ref ak])), (al, .inl (cI, 16, .inl lv)), (ak, .inl (cI, 16, .inl ks))]) (hS : va_S A s.heap H locs) {ls : Array Slot} (hl : lv_has ls 18 [(5, .int g), (4, .int (nI (2 ^ bn - 1))), (3, .int (nI bn)), (2, .ref qa), (1, .ref x), (0, .ref b)]) (kk : ∀ (H : Heap) (locs : List Loc) (ls : Array Slot), va_P G vwCl [(x, .inr (3, [.ref xp, .ref xb, .ref xm])), (xp, .inr (2, [.ref ap, .int (nI 1)])), (ap, .inl (cI, 12, .inl pf)), (xb, .inr (0, [.ref as, .ref ar, .ref am, .int (nI bn)])), (as, .inl (cI, 10, .inl bs)), (ar, .inl (cI, 10, .inl br)), (am, .inl (cI, 1024, .inl mt)), (xm, .inr (1, [.ref al, .ref ak])), (al, .inl (cI, 16, .inl lv)), (ak, .inl (cI, 16, .inl ks))] H → va_D A [(x, .inr (3, [.ref xp, .ref xb, .ref xm])), (xp, .inr (2, [.ref ap, .int (nI 1)])), (ap, .inl (cI, 12, .inl pf)), (xb, .inr (0, [.ref as, .ref ar, .ref am, .int (nI bn)])), (as, .inl (cI, 10, .inl bs)), (ar, .inl (cI, 10, .inl br)), (am, .inl (cI, 1024, .inl mt)), (xm, .inr (1, [.ref al, .ref ak])), (al, .inl (cI, 16, .inl lv)), (ak, .inl (cI, 16, .inl ks))] → va_S A s.heap H locs → lv_has ls 18 [(8, .int (nI (bv_cnt (bv_is false bs bn g) (2 ^ bn)))), (7, .int (nI (bv_cnt (bv_is true bs bn g) (2 ^ bn)))), (5, .int g), (4, .int (nI (2 ^ bn - 1))), (1, .ref x), (0, .ref b)] → W p l e room_1 s m #[Value.ref b] below meth c H locs 12 1119 Q (F0 m 202 ls [])) : W p l e room_1 s m #[Value.ref b] below meth c H locs 12 1119 Q (F0 m 59 ls []) := by
  obtain ⟨hx, hb, hml, hown, hts, hX9, hbl, hbA, hA, hXA, hE, hL5⟩ := hC
  have hK := hE.1
  have hP : va_P G vwCl [(x, .inr (3, [.ref xp, .ref xb, .ref xm])), (xp, .inr (2, [.ref ap, .int (nI 1)])), (ap, .inl (cI, 12, .inl pf)), (xb, .inr (0, [.ref as, .ref ar, .ref am, .int (nI bn)])), (as, .inl (cI, 10, .inl bs)), (ar, .inl (cI, 10, .inl br)), (am, .inl (cI, 1024, .inl mt)), (xm, .inr (1, [.ref al, .ref ak])), (al, .inl (cI, 16, .inl lv)), (ak, .inl (cI, 16, .inl ks))] H := hP
  have hD : va_D A [(x, .inr (3, [.ref xp, .ref xb, .ref xm])), (xp, .inr (2, [.ref ap, .int (nI 1)])), (ap, .inl (cI, 12, .inl pf)), (xb, .inr (0, [.ref as, .ref ar, .ref am, .int (nI bn)])), (as, .inl (cI, 10, .inl bs)), (ar, .inl (cI, 10, .inl br)), (am, .inl (cI, 1024, .inl mt)), (xm, .inr (1, [.ref al, .ref ak])), (al, .inl (cI, 16, .inl lv)), (ak, .inl (cI, 16, .inl ks))] := hD
  have hw0 := hts (.constant RL 25 65535) (by decide +kernel)
  refine lv_aload_n (pc := 59) hx hb dL_law_59 rfl (lv_at hl 4 rfl) ?_
  refine lv_iload (pc := 60) hx hb dL_law_60 (lv_at hl 1 rfl) ?_
  have hPc := hP.sub (ws' := [(x, .inr (3, [.ref xp, .ref xb, .ref xm])), (xp, .inr (2, [.ref ap, .int (nI 1)])), (ap, .inl (cI, 12, .inl pf)), (xb, .inr (0, [.ref as, .ref ar, .ref am, .int (nI bn)])), (as, .inl (cI, 10, .inl bs)), (ar, .inl (cI, 10, .inl br)), (am, .inl (cI, 1024, .inl mt)), (xm, .inr (1, [.ref al, .ref ak])), (al, .inl (cI, 16, .inl lv)), (ak, .inl (cI, 16, .inl ks))]) [0, 1, 2, 3, 4, 5, 6, 7, 8, 9] rfl
  refine bv_cSi (pc := 62) (E' := (bv_b (bv_de bs bn (2 ^ bn - 1) g))) (va_runV (As := [.int (nI (2 ^ bn - 1))]) (rest := []) ⟨hx, hb, hml, hown, hts⟩ (m_X3_entails l G cI x xp ap 1 xb as ar am bn xm al ak pf bs br mt lv ks (2 ^ bn - 1) (by decide) (by omega) hB.2.2.2 (bv_alll bn) (by decide)) (cwV 1 hts gL_law_X3_entails rfl rfl rfl (by decide +kernel) ⟨Nat.le_of_ble_eq_true rfl, Nat.le_of_ble_eq_true rfl⟩) (bv_pV hE hPc (va_recv hK hP (ci := 3) (q0 := 0) rfl rfl)) rfl rfl hl.1 rfl (lv_room (Nat.le_of_ble_eq_true rfl)) dL_law_62 ⟨Nat.le_of_ble_eq_true rfl, Nat.le_of_ble_eq_true rfl⟩) (by rw [show pf (1 - 1) = g from hpf]) ?_
  refine lv_istore (pc := 65) (lv' := [(6, .int (bv_b (bv_de bs bn (2 ^ bn - 1) g))), (5, .int g), (4, .int (nI (2 ^ bn - 1))), (3, .int (nI bn)), (2, .ref qa), (1, .ref x), (0, .ref b)]) hx hb dL_law_65 hl (by decide) rfl (fun ls hl => ?_)
  refine lv_aload_n (pc := 67) hx hb dL_law_67 rfl (lv_at hl 5 rfl) ?_
  have hPc := hP.sub (ws' := [(x, .inr (3, [.ref xp, .ref xb, .ref xm])), (xp, .inr (2, [.ref ap, .int (nI 1)])), (ap, .inl (cI, 12, .inl pf)), (xb, .inr (0, [.ref as, .ref ar, .ref am, .int (nI bn)])), (as, .inl (cI, 10, .inl bs)), (ar, .inl (cI, 10, .inl br)), (am, .inl (cI, 1024, .inl mt)), (xm, .inr (1, [.ref al, .ref ak])), (al, .inl (cI, 16, .inl lv)), (ak, .inl (cI, 16, .inl ks))]) [0, 1, 2, 3, 4, 5, 6, 7, 8, 9] rfl
  refine bv_cSi (pc := 68) (E' := (nI (bv_cnt (bv_is true bs bn g) (2 ^ bn)))) (va_runV (As := []) (rest := []) ⟨hx, hb, hml, hown, hts⟩ (m_X3_kernels l G cI x xp ap 1 xb as ar am bn xm al ak pf bs br mt lv ks (by decide) (by omega) hB.2.2.2 (by decide)) (cwV 0 hts gL_law_X3_kernels rfl rfl rfl (by decide +kernel) ⟨Nat.le_of_ble_eq_true rfl, Nat.le_of_ble_eq_true rfl⟩) (bv_pV hE hPc (va_recv hK hP (ci := 3) (q0 := 0) rfl rfl)) rfl rfl hl.1 rfl (lv_room (Nat.le_of_ble_eq_true rfl)) dL_law_68 ⟨Nat.le_of_ble_eq_true rfl, Nat.le_of_ble_eq_true rfl⟩) (by rw [show pf (1 - 1) = g from hpf]) ?_
  refine lv_istore (pc := 71) (lv' := [(7, .int (nI (bv_cnt (bv_is true bs bn g) (2 ^ bn)))), (6, .int (bv_b (bv_de bs bn (2 ^ bn - 1) g))), (5, .int g), (4, .int (nI (2 ^ bn - 1))), (3, .int (nI bn)), (2, .ref qa), (1, .ref x), (0, .ref b)]) hx hb dL_law_71 hl (by decide) rfl (fun ls hl => ?_)
  refine lv_aload_n (pc := 73) hx hb dL_law_73 rfl (lv_at hl 6 rfl) ?_
  have hPc := hP.sub (ws' := [(x, .inr (3, [.ref xp, .ref xb, .ref xm])), (xp, .inr (2, [.ref ap, .int (nI 1)])), (ap, .inl (cI, 12, .inl pf)), (xb, .inr (0, [.ref as, .ref ar, .ref am, .int (nI bn)])), (as, .inl (cI, 10, .inl bs)), (ar, .inl (cI, 10, .inl br)), (am, .inl (cI, 1024, .inl mt)), (xm, .inr (1, [.ref al, .ref ak])), (al, .inl (cI, 16, .inl lv)), (ak, .inl (cI, 16, .inl ks))]) [0, 1, 2, 3, 4, 5, 6, 7, 8, 9] rfl
  refine bv_cSi (pc := 74) (E' := (nI (bv_cnt (bv_is false bs bn g) (2 ^ bn)))) (va_runV (As := []) (rest := []) ⟨hx, hb, hml, hown, hts⟩ (m_X3_remainders l G cI x xp ap 1 xb as ar am bn xm al ak pf bs br mt lv ks (by decide) (by omega) hB.2.2.2 (by decide)) (cwV 0 hts gL_law_X3_remainders rfl rfl rfl (by decide +kernel) ⟨Nat.le_of_ble_eq_true rfl, Nat.le_of_ble_eq_true rfl⟩) (bv_pV hE hPc (va_recv hK hP (ci := 3) (q0 := 0) rfl rfl)) rfl rfl hl.1 rfl (lv_room (Nat.le_of_ble_eq_true rfl)) dL_law_74 ⟨Nat.le_of_ble_eq_true rfl, Nat.le_of_ble_eq_true rfl⟩) (by rw [show pf (1 - 1) = g from hpf]) ?_
  refine lv_istore (pc := 77) (lv' := [(8, .int (nI (bv_cnt (bv_is false bs bn g) (2 ^ bn)))), (7, .int (nI (bv_cnt (bv_is true bs bn g) (2 ^ bn)))), (6, .int (bv_b (bv_de bs bn (2 ^ bn - 1) g))), (5, .int g), (4, .int (nI (2 ^ bn - 1))), (3, .int (nI bn)), (2, .ref qa), (1, .ref x), (0, .ref b)]) hx hb dL_law_77 hl (by decide) rfl (fun ls hl => ?_)
  refine lv_aload_n (pc := 79) hx hb dL_law_79 rfl (lv_at hl 7 rfl) ?_
  have hPc := hP.sub (ws' := [(x, .inr (3, [.ref xp, .ref xb, .ref xm])), (xp, .inr (2, [.ref ap, .int (nI 1)])), (ap, .inl (cI, 12, .inl pf)), (xb, .inr (0, [.ref as, .ref ar, .ref am, .int (nI bn)])), (as, .inl (cI, 10, .inl bs)), (ar, .inl (cI, 10, .inl br)), (am, .inl (cI, 1024, .inl mt)), (xm, .inr (1, [.ref al, .ref ak])), (al, .inl (cI, 16, .inl lv)), (ak, .inl (cI, 16, .inl ks))]) [0, 1, 2, 3, 4, 5, 6, 7, 8, 9] rfl
  refine bv_cSi (pc := 80) (E' := (bv_cut (bv_ik bs bn g) (bv_lr br bn) (2 ^ bn))) (va_runV (As := []) (rest := []) ⟨hx, hb, hml, hown, hts⟩ (m_X3_cut l G cI x xp ap 1 xb as ar am bn xm al ak pf bs br mt lv ks (by decide) (by omega) hB.2.2.2 (by decide)) (cwV 0 hts gL_law_X3_cut rfl rfl rfl (by decide +kernel) ⟨Nat.le_of_ble_eq_true rfl, Nat.le_of_ble_eq_true rfl⟩) (bv_pV hE hPc (va_recv hK hP (ci := 3) (q0 := 0) rfl rfl)) rfl rfl hl.1 rfl (lv_room (Nat.le_of_ble_eq_true rfl)) dL_law_80 ⟨Nat.le_of_ble_eq_true rfl, Nat.le_of_ble_eq_true rfl⟩) (by rw [show pf (1 - 1) = g from hpf]) ?_
  refine lv_istore (pc := 83) (lv' := [(9, .int (bv_cut (bv_ik bs bn g) (bv_lr br bn) (2 ^ bn))), (8, .int (nI (bv_cnt (bv_is false bs bn g) (2 ^ bn)))), (7, .int (nI (bv_cnt (bv_is true bs bn g) (2 ^ bn)))), (6, .int (bv_b (bv_de bs bn (2 ^ bn - 1) g))), (5, .int g), (4, .int (nI (2 ^ bn - 1))), (3, .int (nI bn)), (2, .ref qa), (1, .ref x), (0, .ref b)]) hx hb dL_law_83 hl (by decide) rfl (fun ls hl => ?_)
  refine lv_iload (pc := 85) hx hb dL_law_85 (lv_at hl 2 rfl) ?_
  refine lv_if_le (pc := 87) (tgt := 94) hx hb dL_law_87 (by decide) (fun c87_9 => ?_) (fun c87_9 => ?_)
  · have hf := bv_L1a (show bn ≤ 10 by omega) c87_9
    refine lv_iconst (pc := 94) (v := 0) hx hb dL_law_94 (by decide) ?_
    refine lv_iload (pc := 95) hx hb dL_law_95 (lv_at hl 3 rfl) ?_
    refine lv_icmp_ne (pc := 97) (tgt := 142) hx hb dL_law_97 (by decide) (fun c97_10 => ?_) (fun c97_10 => ?_)
    · exact absurd (by rw [hf]; rfl) c97_10
    · refine lv_iload (pc := 100) hx hb dL_law_100 (lv_at hl 1 rfl) ?_
      refine lv_if_ne (pc := 102) (tgt := 109) hx hb dL_law_102 (by decide) (fun c102_11 => ?_) (fun c102_11 => ?_)
      · have hr : 0 < bv_cnt (bv_is false bs bn g) (2 ^ bn) := Nat.pos_of_ne_zero (fun q => c102_11 (by rw [q]; rfl))
        refine lv_iconst (pc := 109) (v := 0) hx hb dL_law_109 (by decide) ?_
        refine lv_iload (pc := 110) hx hb dL_law_110 (lv_at hl 4 rfl) ?_
        refine lv_ldc (pc := 112) hx hb hown hw0 dL_law_112 ?_
        refine lv_icmp_ne (pc := 114) (tgt := 121) hx hb dL_law_114 (by decide) (fun c114_12 => ?_) (fun c114_12 => ?_)
        · have hgx := c114_12
          refine lv_iconst (pc := 121) (v := 0) hx hb dL_law_121 (by decide) ?_
          refine lv_icmp_ne (pc := 122) (tgt := 142) hx hb dL_law_122 (by decide) (fun c122_13 => ?_) (fun c122_13 => ?_)
          · exact absurd c122_13 (by decide)
          · refine lv_iload (pc := 125) hx hb dL_law_125 (lv_at hl 3 rfl) ?_
            refine lv_aload_n (pc := 127) hx hb dL_law_127 rfl (lv_at hl 8 rfl) ?_
            have hPc := hP.sub (ws' := [(x, .inr (3, [.ref xp, .ref xb, .ref xm])), (xp, .inr (2, [.ref ap, .int (nI 1)])), (ap, .inl (cI, 12, .inl pf)), (xb, .inr (0, [.ref as, .ref ar, .ref am, .int (nI bn)])), (as, .inl (cI, 10, .inl bs)), (ar, .inl (cI, 10, .inl br)), (am, .inl (cI, 1024, .inl mt)), (xm, .inr (1, [.ref al, .ref ak])), (al, .inl (cI, 16, .inl lv)), (ak, .inl (cI, 16, .inl ks))]) [0, 1, 2, 3, 4, 5, 6, 7, 8, 9] rfl
            refine bv_cSi (pc := 128) (E' := (nI (bv_degn bs br bn g))) (va_runV (As := []) (rest := [.int (bv_b (bv_de bs bn (2 ^ bn - 1) g))]) ⟨hx, hb, hml, hown, hts⟩ (m_X3_degree l G cI x xp ap 1 xb as ar am bn xm al ak pf bs br mt lv ks (by decide) (by omega) hB.2.2.2 (by decide)) (cwV 0 hts gL_law_X3_degree rfl rfl rfl (by decide +kernel) ⟨Nat.le_of_ble_eq_true rfl, Nat.le_of_ble_eq_true rfl⟩) (bv_pV hE hPc (va_recv hK hP (ci := 3) (q0 := 0) rfl rfl)) rfl rfl hl.1 rfl (lv_room (Nat.le_of_ble_eq_true rfl)) dL_law_128 ⟨Nat.le_of_ble_eq_true rfl, Nat.le_of_ble_eq_true rfl⟩) (by rw [show pf (1 - 1) = g from hpf]) ?_
            refine lv_if_le (pc := 131) (tgt := 138) hx hb dL_law_131 (by decide) (fun c131_16 => ?_) (fun c131_16 => ?_)
            · refine lv_iconst (pc := 138) (v := 0) hx hb dL_law_138 (by decide) ?_
              refine lv_icmp_eq (pc := 139) (tgt := 144) hx hb dL_law_139 (by decide) (fun c139_17 => ?_) (fun c139_17 => ?_)
              · refine lv_iload (pc := 144) hx hb dL_law_144 (lv_at hl 4 rfl) ?_
                refine lv_ldc (pc := 146) hx hb hown hw0 dL_law_146 ?_
                refine lv_icmp_eq (pc := 148) (tgt := 165) hx hb dL_law_148 (by decide) (fun c148_18 => ?_) (fun c148_18 => ?_)
                · exact absurd c148_18 hgx
                · refine lv_aload_n (pc := 151) hx hb dL_law_151 rfl (lv_at hl 8 rfl) ?_
                  refine lv_iload (pc := 152) hx hb dL_law_152 (lv_at hl 5 rfl) ?_
                  refine lv_iload (pc := 154) hx hb dL_law_154 (lv_at hl 0 rfl) ?_
                  refine lv_iconst (pc := 156) (v := (-1)) hx hb dL_law_156 (by decide) ?_
                  refine lv_ixor (pc := 157) hx hb dL_law_157 ?_
                  refine lv_iand (pc := 158) hx hb dL_law_158 ?_
                  obtain ⟨t4, ht4, e4, hd4⟩ := bv_T4 (bs := bs) hB.2.2.1 hg hgx
                  rw [e4]
                  have hPc := hP.sub (ws' := [(x, .inr (3, [.ref xp, .ref xb, .ref xm])), (xp, .inr (2, [.ref ap, .int (nI 1)])), (ap, .inl (cI, 12, .inl pf)), (xb, .inr (0, [.ref as, .ref ar, .ref am, .int (nI bn)])), (as, .inl (cI, 10, .inl bs)), (ar, .inl (cI, 10, .inl br)), (am, .inl (cI, 1024, .inl mt)), (xm, .inr (1, [.ref al, .ref ak])), (al, .inl (cI, 16, .inl lv)), (ak, .inl (cI, 16, .inl ks))]) [0, 1, 2, 3, 4, 5, 6, 7, 8, 9] rfl
                  refine bv_cSi (pc := 159) (E' := (bv_b (bv_de bs bn t4 g))) (va_runV (As := [.int (nI t4)]) (rest := []) ⟨hx, hb, hml, hown, hts⟩ (m_X3_entails l G cI x xp ap 1 xb as ar am bn xm al ak pf bs br mt lv ks t4 (by decide) (by omega) hB.2.2.2 ht4 (by decide)) (cwV 1 hts gL_law_X3_entails rfl rfl rfl (by decide +kernel) ⟨Nat.le_of_ble_eq_true rfl, Nat.le_of_ble_eq_true rfl⟩) (bv_pV hE hPc (va_recv hK hP (ci := 3) (q0 := 0) rfl rfl)) rfl rfl hl.1 rfl (lv_room (Nat.le_of_ble_eq_true rfl)) dL_law_159 ⟨Nat.le_of_ble_eq_true rfl, Nat.le_of_ble_eq_true rfl⟩) (by rw [show pf (1 - 1) = g from hpf]) ?_
                  refine lv_if_ne (pc := 162) (tgt := 200) hx hb dL_law_162 (by decide) (fun c162_21 => ?_) (fun c162_21 => ?_)
                  · exact absurd (by rw [hd4]; rfl) c162_21
                  · refine lv_iload (pc := 165) hx hb dL_law_165 (lv_at hl 3 rfl) ?_
                    refine lv_if_ne (pc := 167) (tgt := 202) hx hb dL_law_167 (by decide) (fun c167_22 => ?_) (fun c167_22 => ?_)
                    · exact absurd (by rw [hf]; rfl) c167_22
                    · refine lv_iload (pc := 170) hx hb dL_law_170 (lv_at hl 0 rfl) ?_
                      refine lv_if_ne (pc := 172) (tgt := 200) hx hb dL_law_172 (by decide) (fun c172_23 => ?_) (fun c172_23 => ?_)
                      · exact absurd (bv_T5a hf) c172_23
                      · refine lv_iload (pc := 175) hx hb dL_law_175 (lv_at hl 1 rfl) ?_
                        refine lv_iconst (pc := 177) (v := 1) hx hb dL_law_177 (by decide) ?_
                        refine lv_icmp_ne (pc := 178) (tgt := 200) hx hb dL_law_178 (by decide) (fun c178_24 => ?_) (fun c178_24 => ?_)
                        · exact absurd (by rw [(bv_T5b hf).1]; rfl) c178_24
                        · refine lv_aload_n (pc := 181) hx hb dL_law_181 rfl (lv_at hl 8 rfl) ?_
                          refine lv_iconst (pc := 182) (v := 0) hx hb dL_law_182 (by decide) ?_
                          have hPc := hP.sub (ws' := [(x, .inr (3, [.ref xp, .ref xb, .ref xm])), (xp, .inr (2, [.ref ap, .int (nI 1)])), (ap, .inl (cI, 12, .inl pf)), (xb, .inr (0, [.ref as, .ref ar, .ref am, .int (nI bn)])), (as, .inl (cI, 10, .inl bs)), (ar, .inl (cI, 10, .inl br)), (am, .inl (cI, 1024, .inl mt)), (xm, .inr (1, [.ref al, .ref ak])), (al, .inl (cI, 16, .inl lv)), (ak, .inl (cI, 16, .inl ks))]) [0, 1, 2, 3, 4, 5, 6, 7, 8, 9] rfl
                          refine bv_cSi (pc := 183) (E' := (nI (2 ^ bn - 1))) (va_runV (As := [.int 0]) (rest := []) ⟨hx, hb, hml, hown, hts⟩ (m_X3_remainder l G cI x xp ap 1 xb as ar am bn xm al ak pf bs br mt lv ks 0 (2 ^ bn - 1) (by decide) (by omega) hB.2.2.2 (by decide) (by rw [show pf (1 - 1) = g from hpf]; exact (bv_T5b hf).2)) (cwV 1 hts gL_law_X3_remainder rfl rfl rfl (by decide +kernel) ⟨Nat.le_of_ble_eq_true rfl, Nat.le_of_ble_eq_true rfl⟩) (bv_pV hE hPc (va_recv hK hP (ci := 3) (q0 := 0) rfl rfl)) rfl rfl hl.1 rfl (lv_room (Nat.le_of_ble_eq_true rfl)) dL_law_183 ⟨Nat.le_of_ble_eq_true rfl, Nat.le_of_ble_eq_true rfl⟩) rfl ?_
                          refine lv_iload (pc := 186) hx hb dL_law_186 (lv_at hl 5 rfl) ?_
                          refine lv_icmp_ne (pc := 188) (tgt := 200) hx hb dL_law_188 (by decide) (fun c188_27 => ?_) (fun c188_27 => ?_)
                          · exact absurd rfl c188_27
                          · refine lv_aload_n (pc := 191) hx hb dL_law_191 rfl (lv_at hl 8 rfl) ?_
                            have hPc := hP.sub (ws' := [(x, .inr (3, [.ref xp, .ref xb, .ref xm])), (xp, .inr (2, [.ref ap, .int (nI 1)])), (ap, .inl (cI, 12, .inl pf)), (xb, .inr (0, [.ref as, .ref ar, .ref am, .int (nI bn)])), (as, .inl (cI, 10, .inl bs)), (ar, .inl (cI, 10, .inl br)), (am, .inl (cI, 1024, .inl mt)), (xm, .inr (1, [.ref al, .ref ak])), (al, .inl (cI, 16, .inl lv)), (ak, .inl (cI, 16, .inl ks))]) [0, 1, 2, 3, 4, 5, 6, 7, 8, 9] rfl
                            refine bv_cSi (pc := 192) (E' := (nI (2 ^ bn - 1))) (va_runV (As := []) (rest := []) ⟨hx, hb, hml, hown, hts⟩ (m_X3_bestRemainder l G cI x xp ap 1 xb as ar am bn xm al ak pf bs br mt lv ks (by decide) (by omega) hB.2.2.2 (by decide)) (cwV 0 hts gL_law_X3_bestRemainder rfl rfl rfl (by decide +kernel) ⟨Nat.le_of_ble_eq_true rfl, Nat.le_of_ble_eq_true rfl⟩) (bv_pV hE hPc (va_recv hK hP (ci := 3) (q0 := 0) rfl rfl)) rfl rfl hl.1 rfl (lv_room (Nat.le_of_ble_eq_true rfl)) dL_law_192 ⟨Nat.le_of_ble_eq_true rfl, Nat.le_of_ble_eq_true rfl⟩) (by rw [show pf (1 - 1) = g from hpf, bv_T5c hf]; rfl) ?_
                            refine lv_iload (pc := 195) hx hb dL_law_195 (lv_at hl 5 rfl) ?_
                            refine lv_icmp_eq (pc := 197) (tgt := 202) hx hb dL_law_197 (by decide) (fun c197_30 => ?_) (fun c197_30 => ?_)
                            · exact kk _ _ _ hP hD hS (lv_sub hl [1, 2, 4, 5, 8, 9] rfl)
                            · exact absurd rfl c197_30
              · exact absurd (by rw [hf]; rfl) c139_17
            · exact absurd (by rw [bv_T3a hf]; decide) c131_16
        · exact absurd hr (by rw [c114_12, bv_T2a]; decide)
      · have hr : bv_cnt (bv_is false bs bn g) (2 ^ bn) = 0 := (nI_eq (b := 0) (bv_cnt_s (by omega)) (by decide)).mp c102_11
        refine lv_iconst (pc := 105) (v := 1) hx hb dL_law_105 (by decide) ?_
        refine lv_goto (pc := 106) (tgt := 110) hx hb dL_law_106 (by decide) ?_
        refine lv_iload (pc := 110) hx hb dL_law_110 (lv_at hl 4 rfl) ?_
        refine lv_ldc (pc := 112) hx hb hown hw0 dL_law_112 ?_
        refine lv_icmp_ne (pc := 114) (tgt := 121) hx hb dL_law_114 (by decide) (fun c114_31 => ?_) (fun c114_31 => ?_)
        · exact absurd (bv_T2b (bs := bs) (bn := bn) hg c114_31) (by rw [hr]; decide)
        · have hgx := c114_31
          refine lv_iconst (pc := 117) (v := 1) hx hb dL_law_117 (by decide) ?_
          refine lv_goto (pc := 118) (tgt := 122) hx hb dL_law_118 (by decide) ?_
          refine lv_icmp_ne (pc := 122) (tgt := 142) hx hb dL_law_122 (by decide) (fun c122_32 => ?_) (fun c122_32 => ?_)
          · exact absurd c122_32 (by decide)
          · refine lv_iload (pc := 125) hx hb dL_law_125 (lv_at hl 3 rfl) ?_
            refine lv_aload_n (pc := 127) hx hb dL_law_127 rfl (lv_at hl 8 rfl) ?_
            have hPc := hP.sub (ws' := [(x, .inr (3, [.ref xp, .ref xb, .ref xm])), (xp, .inr (2, [.ref ap, .int (nI 1)])), (ap, .inl (cI, 12, .inl pf)), (xb, .inr (0, [.ref as, .ref ar, .ref am, .int (nI bn)])), (as, .inl (cI, 10, .inl bs)), (ar, .inl (cI, 10, .inl br)), (am, .inl (cI, 1024, .inl mt)), (xm, .inr (1, [.ref al, .ref ak])), (al, .inl (cI, 16, .inl lv)), (ak, .inl (cI, 16, .inl ks))]) [0, 1, 2, 3, 4, 5, 6, 7, 8, 9] rfl
            refine bv_cSi (pc := 128) (E' := (nI (bv_degn bs br bn g))) (va_runV (As := []) (rest := [.int (bv_b (bv_de bs bn (2 ^ bn - 1) g))]) ⟨hx, hb, hml, hown, hts⟩ (m_X3_degree l G cI x xp ap 1 xb as ar am bn xm al ak pf bs br mt lv ks (by decide) (by omega) hB.2.2.2 (by decide)) (cwV 0 hts gL_law_X3_degree rfl rfl rfl (by decide +kernel) ⟨Nat.le_of_ble_eq_true rfl, Nat.le_of_ble_eq_true rfl⟩) (bv_pV hE hPc (va_recv hK hP (ci := 3) (q0 := 0) rfl rfl)) rfl rfl hl.1 rfl (lv_room (Nat.le_of_ble_eq_true rfl)) dL_law_128 ⟨Nat.le_of_ble_eq_true rfl, Nat.le_of_ble_eq_true rfl⟩) (by rw [show pf (1 - 1) = g from hpf]) ?_
            refine lv_if_le (pc := 131) (tgt := 138) hx hb dL_law_131 (by decide) (fun c131_35 => ?_) (fun c131_35 => ?_)
            · refine lv_iconst (pc := 138) (v := 0) hx hb dL_law_138 (by decide) ?_
              refine lv_icmp_eq (pc := 139) (tgt := 144) hx hb dL_law_139 (by decide) (fun c139_36 => ?_) (fun c139_36 => ?_)
              · refine lv_iload (pc := 144) hx hb dL_law_144 (lv_at hl 4 rfl) ?_
                refine lv_ldc (pc := 146) hx hb hown hw0 dL_law_146 ?_
                refine lv_icmp_eq (pc := 148) (tgt := 165) hx hb dL_law_148 (by decide) (fun c148_37 => ?_) (fun c148_37 => ?_)
                · refine lv_iload (pc := 165) hx hb dL_law_165 (lv_at hl 3 rfl) ?_
                  refine lv_if_ne (pc := 167) (tgt := 202) hx hb dL_law_167 (by decide) (fun c167_38 => ?_) (fun c167_38 => ?_)
                  · exact absurd (by rw [hf]; rfl) c167_38
                  · refine lv_iload (pc := 170) hx hb dL_law_170 (lv_at hl 0 rfl) ?_
                    refine lv_if_ne (pc := 172) (tgt := 200) hx hb dL_law_172 (by decide) (fun c172_39 => ?_) (fun c172_39 => ?_)
                    · exact absurd (bv_T5a hf) c172_39
                    · refine lv_iload (pc := 175) hx hb dL_law_175 (lv_at hl 1 rfl) ?_
                      refine lv_iconst (pc := 177) (v := 1) hx hb dL_law_177 (by decide) ?_
                      refine lv_icmp_ne (pc := 178) (tgt := 200) hx hb dL_law_178 (by decide) (fun c178_40 => ?_) (fun c178_40 => ?_)
                      · exact absurd (by rw [(bv_T5b hf).1]; rfl) c178_40
                      · refine lv_aload_n (pc := 181) hx hb dL_law_181 rfl (lv_at hl 8 rfl) ?_
                        refine lv_iconst (pc := 182) (v := 0) hx hb dL_law_182 (by decide) ?_
                        have hPc := hP.sub (ws' := [(x, .inr (3, [.ref xp, .ref xb, .ref xm])), (xp, .inr (2, [.ref ap, .int (nI 1)])), (ap, .inl (cI, 12, .inl pf)), (xb, .inr (0, [.ref as, .ref ar, .ref am, .int (nI bn)])), (as, .inl (cI, 10, .inl bs)), (ar, .inl (cI, 10, .inl br)), (am, .inl (cI, 1024, .inl mt)), (xm, .inr (1, [.ref al, .ref ak])), (al, .inl (cI, 16, .inl lv)), (ak, .inl (cI, 16, .inl ks))]) [0, 1, 2, 3, 4, 5, 6, 7, 8, 9] rfl
                        refine bv_cSi (pc := 183) (E' := (nI (2 ^ bn - 1))) (va_runV (As := [.int 0]) (rest := []) ⟨hx, hb, hml, hown, hts⟩ (m_X3_remainder l G cI x xp ap 1 xb as ar am bn xm al ak pf bs br mt lv ks 0 (2 ^ bn - 1) (by decide) (by omega) hB.2.2.2 (by decide) (by rw [show pf (1 - 1) = g from hpf]; exact (bv_T5b hf).2)) (cwV 1 hts gL_law_X3_remainder rfl rfl rfl (by decide +kernel) ⟨Nat.le_of_ble_eq_true rfl, Nat.le_of_ble_eq_true rfl⟩) (bv_pV hE hPc (va_recv hK hP (ci := 3) (q0 := 0) rfl rfl)) rfl rfl hl.1 rfl (lv_room (Nat.le_of_ble_eq_true rfl)) dL_law_183 ⟨Nat.le_of_ble_eq_true rfl, Nat.le_of_ble_eq_true rfl⟩) rfl ?_
                        refine lv_iload (pc := 186) hx hb dL_law_186 (lv_at hl 5 rfl) ?_
                        refine lv_icmp_ne (pc := 188) (tgt := 200) hx hb dL_law_188 (by decide) (fun c188_43 => ?_) (fun c188_43 => ?_)
                        · exact absurd rfl c188_43
                        · refine lv_aload_n (pc := 191) hx hb dL_law_191 rfl (lv_at hl 8 rfl) ?_
                          have hPc := hP.sub (ws' := [(x, .inr (3, [.ref xp, .ref xb, .ref xm])), (xp, .inr (2, [.ref ap, .int (nI 1)])), (ap, .inl (cI, 12, .inl pf)), (xb, .inr (0, [.ref as, .ref ar, .ref am, .int (nI bn)])), (as, .inl (cI, 10, .inl bs)), (ar, .inl (cI, 10, .inl br)), (am, .inl (cI, 1024, .inl mt)), (xm, .inr (1, [.ref al, .ref ak])), (al, .inl (cI, 16, .inl lv)), (ak, .inl (cI, 16, .inl ks))]) [0, 1, 2, 3, 4, 5, 6, 7, 8, 9] rfl
                          refine bv_cSi (pc := 192) (E' := (nI (2 ^ bn - 1))) (va_runV (As := []) (rest := []) ⟨hx, hb, hml, hown, hts⟩ (m_X3_bestRemainder l G cI x xp ap 1 xb as ar am bn xm al ak pf bs br mt lv ks (by decide) (by omega) hB.2.2.2 (by decide)) (cwV 0 hts gL_law_X3_bestRemainder rfl rfl rfl (by decide +kernel) ⟨Nat.le_of_ble_eq_true rfl, Nat.le_of_ble_eq_true rfl⟩) (bv_pV hE hPc (va_recv hK hP (ci := 3) (q0 := 0) rfl rfl)) rfl rfl hl.1 rfl (lv_room (Nat.le_of_ble_eq_true rfl)) dL_law_192 ⟨Nat.le_of_ble_eq_true rfl, Nat.le_of_ble_eq_true rfl⟩) (by rw [show pf (1 - 1) = g from hpf, bv_T5c hf]; rfl) ?_
                          refine lv_iload (pc := 195) hx hb dL_law_195 (lv_at hl 5 rfl) ?_
                          refine lv_icmp_eq (pc := 197) (tgt := 202) hx hb dL_law_197 (by decide) (fun c197_46 => ?_) (fun c197_46 => ?_)
                          · exact kk _ _ _ hP hD hS (lv_sub hl [1, 2, 4, 5, 8, 9] rfl)
                          · exact absurd rfl c197_46
                · exact absurd hgx c148_37
              · exact absurd (by rw [hf]; rfl) c139_36
            · exact absurd (by rw [bv_T3a hf]; decide) c131_35
  · have hf := bv_L1b c87_9
    refine lv_iconst (pc := 90) (v := 1) hx hb dL_law_90 (by decide) ?_
    refine lv_goto (pc := 91) (tgt := 95) hx hb dL_law_91 (by decide) ?_
    refine lv_iload (pc := 95) hx hb dL_law_95 (lv_at hl 3 rfl) ?_
    refine lv_icmp_ne (pc := 97) (tgt := 142) hx hb dL_law_97 (by decide) (fun c97_47 => ?_) (fun c97_47 => ?_)
    · exact absurd (by rw [hf]; rfl) c97_47
    · refine lv_iload (pc := 100) hx hb dL_law_100 (lv_at hl 1 rfl) ?_
      refine lv_if_ne (pc := 102) (tgt := 109) hx hb dL_law_102 (by decide) (fun c102_48 => ?_) (fun c102_48 => ?_)
      · have hr : 0 < bv_cnt (bv_is false bs bn g) (2 ^ bn) := Nat.pos_of_ne_zero (fun q => c102_48 (by rw [q]; rfl))
        refine lv_iconst (pc := 109) (v := 0) hx hb dL_law_109 (by decide) ?_
        refine lv_iload (pc := 110) hx hb dL_law_110 (lv_at hl 4 rfl) ?_
        refine lv_ldc (pc := 112) hx hb hown hw0 dL_law_112 ?_
        refine lv_icmp_ne (pc := 114) (tgt := 121) hx hb dL_law_114 (by decide) (fun c114_49 => ?_) (fun c114_49 => ?_)
        · have hgx := c114_49
          refine lv_iconst (pc := 121) (v := 0) hx hb dL_law_121 (by decide) ?_
          refine lv_icmp_ne (pc := 122) (tgt := 142) hx hb dL_law_122 (by decide) (fun c122_50 => ?_) (fun c122_50 => ?_)
          · exact absurd c122_50 (by decide)
          · refine lv_iload (pc := 125) hx hb dL_law_125 (lv_at hl 3 rfl) ?_
            refine lv_aload_n (pc := 127) hx hb dL_law_127 rfl (lv_at hl 8 rfl) ?_
            have hPc := hP.sub (ws' := [(x, .inr (3, [.ref xp, .ref xb, .ref xm])), (xp, .inr (2, [.ref ap, .int (nI 1)])), (ap, .inl (cI, 12, .inl pf)), (xb, .inr (0, [.ref as, .ref ar, .ref am, .int (nI bn)])), (as, .inl (cI, 10, .inl bs)), (ar, .inl (cI, 10, .inl br)), (am, .inl (cI, 1024, .inl mt)), (xm, .inr (1, [.ref al, .ref ak])), (al, .inl (cI, 16, .inl lv)), (ak, .inl (cI, 16, .inl ks))]) [0, 1, 2, 3, 4, 5, 6, 7, 8, 9] rfl
            refine bv_cSi (pc := 128) (E' := (nI (bv_degn bs br bn g))) (va_runV (As := []) (rest := [.int (bv_b (bv_de bs bn (2 ^ bn - 1) g))]) ⟨hx, hb, hml, hown, hts⟩ (m_X3_degree l G cI x xp ap 1 xb as ar am bn xm al ak pf bs br mt lv ks (by decide) (by omega) hB.2.2.2 (by decide)) (cwV 0 hts gL_law_X3_degree rfl rfl rfl (by decide +kernel) ⟨Nat.le_of_ble_eq_true rfl, Nat.le_of_ble_eq_true rfl⟩) (bv_pV hE hPc (va_recv hK hP (ci := 3) (q0 := 0) rfl rfl)) rfl rfl hl.1 rfl (lv_room (Nat.le_of_ble_eq_true rfl)) dL_law_128 ⟨Nat.le_of_ble_eq_true rfl, Nat.le_of_ble_eq_true rfl⟩) (by rw [show pf (1 - 1) = g from hpf]) ?_
            refine lv_if_le (pc := 131) (tgt := 138) hx hb dL_law_131 (by decide) (fun c131_53 => ?_) (fun c131_53 => ?_)
            · exact absurd c131_53 (nI_nle (bv_T3b hB.2.2.1 hf) (by have := bv_degn_le bs br bn g; omega))
            · refine lv_iconst (pc := 134) (v := 1) hx hb dL_law_134 (by decide) ?_
              refine lv_goto (pc := 135) (tgt := 139) hx hb dL_law_135 (by decide) ?_
              refine lv_icmp_eq (pc := 139) (tgt := 144) hx hb dL_law_139 (by decide) (fun c139_54 => ?_) (fun c139_54 => ?_)
              · refine lv_iload (pc := 144) hx hb dL_law_144 (lv_at hl 4 rfl) ?_
                refine lv_ldc (pc := 146) hx hb hown hw0 dL_law_146 ?_
                refine lv_icmp_eq (pc := 148) (tgt := 165) hx hb dL_law_148 (by decide) (fun c148_55 => ?_) (fun c148_55 => ?_)
                · exact absurd c148_55 hgx
                · refine lv_aload_n (pc := 151) hx hb dL_law_151 rfl (lv_at hl 8 rfl) ?_
                  refine lv_iload (pc := 152) hx hb dL_law_152 (lv_at hl 5 rfl) ?_
                  refine lv_iload (pc := 154) hx hb dL_law_154 (lv_at hl 0 rfl) ?_
                  refine lv_iconst (pc := 156) (v := (-1)) hx hb dL_law_156 (by decide) ?_
                  refine lv_ixor (pc := 157) hx hb dL_law_157 ?_
                  refine lv_iand (pc := 158) hx hb dL_law_158 ?_
                  obtain ⟨t4, ht4, e4, hd4⟩ := bv_T4 (bs := bs) hB.2.2.1 hg hgx
                  rw [e4]
                  have hPc := hP.sub (ws' := [(x, .inr (3, [.ref xp, .ref xb, .ref xm])), (xp, .inr (2, [.ref ap, .int (nI 1)])), (ap, .inl (cI, 12, .inl pf)), (xb, .inr (0, [.ref as, .ref ar, .ref am, .int (nI bn)])), (as, .inl (cI, 10, .inl bs)), (ar, .inl (cI, 10, .inl br)), (am, .inl (cI, 1024, .inl mt)), (xm, .inr (1, [.ref al, .ref ak])), (al, .inl (cI, 16, .inl lv)), (ak, .inl (cI, 16, .inl ks))]) [0, 1, 2, 3, 4, 5, 6, 7, 8, 9] rfl
                  refine bv_cSi (pc := 159) (E' := (bv_b (bv_de bs bn t4 g))) (va_runV (As := [.int (nI t4)]) (rest := []) ⟨hx, hb, hml, hown, hts⟩ (m_X3_entails l G cI x xp ap 1 xb as ar am bn xm al ak pf bs br mt lv ks t4 (by decide) (by omega) hB.2.2.2 ht4 (by decide)) (cwV 1 hts gL_law_X3_entails rfl rfl rfl (by decide +kernel) ⟨Nat.le_of_ble_eq_true rfl, Nat.le_of_ble_eq_true rfl⟩) (bv_pV hE hPc (va_recv hK hP (ci := 3) (q0 := 0) rfl rfl)) rfl rfl hl.1 rfl (lv_room (Nat.le_of_ble_eq_true rfl)) dL_law_159 ⟨Nat.le_of_ble_eq_true rfl, Nat.le_of_ble_eq_true rfl⟩) (by rw [show pf (1 - 1) = g from hpf]) ?_
                  refine lv_if_ne (pc := 162) (tgt := 200) hx hb dL_law_162 (by decide) (fun c162_58 => ?_) (fun c162_58 => ?_)
                  · exact absurd (by rw [hd4]; rfl) c162_58
                  · refine lv_iload (pc := 165) hx hb dL_law_165 (lv_at hl 3 rfl) ?_
                    refine lv_if_ne (pc := 167) (tgt := 202) hx hb dL_law_167 (by decide) (fun c167_59 => ?_) (fun c167_59 => ?_)
                    · exact kk _ _ _ hP hD hS (lv_sub hl [1, 2, 4, 5, 8, 9] rfl)
                    · exact absurd c167_59 (by rw [hf]; decide)
              · exact absurd (by rw [hf]; rfl) c139_54
        · exact absurd hr (by rw [c114_49, bv_T2a]; decide)
      · have hr : bv_cnt (bv_is false bs bn g) (2 ^ bn) = 0 := (nI_eq (b := 0) (bv_cnt_s (by omega)) (by decide)).mp c102_48
        refine lv_iconst (pc := 105) (v := 1) hx hb dL_law_105 (by decide) ?_
        refine lv_goto (pc := 106) (tgt := 110) hx hb dL_law_106 (by decide) ?_
        refine lv_iload (pc := 110) hx hb dL_law_110 (lv_at hl 4 rfl) ?_
        refine lv_ldc (pc := 112) hx hb hown hw0 dL_law_112 ?_
        refine lv_icmp_ne (pc := 114) (tgt := 121) hx hb dL_law_114 (by decide) (fun c114_60 => ?_) (fun c114_60 => ?_)
        · exact absurd (bv_T2b (bs := bs) (bn := bn) hg c114_60) (by rw [hr]; decide)
        · have hgx := c114_60
          refine lv_iconst (pc := 117) (v := 1) hx hb dL_law_117 (by decide) ?_
          refine lv_goto (pc := 118) (tgt := 122) hx hb dL_law_118 (by decide) ?_
          refine lv_icmp_ne (pc := 122) (tgt := 142) hx hb dL_law_122 (by decide) (fun c122_61 => ?_) (fun c122_61 => ?_)
          · exact absurd c122_61 (by decide)
          · refine lv_iload (pc := 125) hx hb dL_law_125 (lv_at hl 3 rfl) ?_
            refine lv_aload_n (pc := 127) hx hb dL_law_127 rfl (lv_at hl 8 rfl) ?_
            have hPc := hP.sub (ws' := [(x, .inr (3, [.ref xp, .ref xb, .ref xm])), (xp, .inr (2, [.ref ap, .int (nI 1)])), (ap, .inl (cI, 12, .inl pf)), (xb, .inr (0, [.ref as, .ref ar, .ref am, .int (nI bn)])), (as, .inl (cI, 10, .inl bs)), (ar, .inl (cI, 10, .inl br)), (am, .inl (cI, 1024, .inl mt)), (xm, .inr (1, [.ref al, .ref ak])), (al, .inl (cI, 16, .inl lv)), (ak, .inl (cI, 16, .inl ks))]) [0, 1, 2, 3, 4, 5, 6, 7, 8, 9] rfl
            refine bv_cSi (pc := 128) (E' := (nI (bv_degn bs br bn g))) (va_runV (As := []) (rest := [.int (bv_b (bv_de bs bn (2 ^ bn - 1) g))]) ⟨hx, hb, hml, hown, hts⟩ (m_X3_degree l G cI x xp ap 1 xb as ar am bn xm al ak pf bs br mt lv ks (by decide) (by omega) hB.2.2.2 (by decide)) (cwV 0 hts gL_law_X3_degree rfl rfl rfl (by decide +kernel) ⟨Nat.le_of_ble_eq_true rfl, Nat.le_of_ble_eq_true rfl⟩) (bv_pV hE hPc (va_recv hK hP (ci := 3) (q0 := 0) rfl rfl)) rfl rfl hl.1 rfl (lv_room (Nat.le_of_ble_eq_true rfl)) dL_law_128 ⟨Nat.le_of_ble_eq_true rfl, Nat.le_of_ble_eq_true rfl⟩) (by rw [show pf (1 - 1) = g from hpf]) ?_
            refine lv_if_le (pc := 131) (tgt := 138) hx hb dL_law_131 (by decide) (fun c131_64 => ?_) (fun c131_64 => ?_)
            · exact absurd c131_64 (nI_nle (bv_T3b hB.2.2.1 hf) (by have := bv_degn_le bs br bn g; omega))
            · refine lv_iconst (pc := 134) (v := 1) hx hb dL_law_134 (by decide) ?_
              refine lv_goto (pc := 135) (tgt := 139) hx hb dL_law_135 (by decide) ?_
              refine lv_icmp_eq (pc := 139) (tgt := 144) hx hb dL_law_139 (by decide) (fun c139_65 => ?_) (fun c139_65 => ?_)
              · refine lv_iload (pc := 144) hx hb dL_law_144 (lv_at hl 4 rfl) ?_
                refine lv_ldc (pc := 146) hx hb hown hw0 dL_law_146 ?_
                refine lv_icmp_eq (pc := 148) (tgt := 165) hx hb dL_law_148 (by decide) (fun c148_66 => ?_) (fun c148_66 => ?_)
                · refine lv_iload (pc := 165) hx hb dL_law_165 (lv_at hl 3 rfl) ?_
                  refine lv_if_ne (pc := 167) (tgt := 202) hx hb dL_law_167 (by decide) (fun c167_67 => ?_) (fun c167_67 => ?_)
                  · exact kk _ _ _ hP hD hS (lv_sub hl [1, 2, 4, 5, 8, 9] rfl)
                  · exact absurd c167_67 (by rw [hf]; decide)
                · exact absurd hgx c148_66
              · exact absurd (by rw [hf]; rfl) c139_65
set_option maxHeartbeats 4000000 in
set_option maxRecDepth 100000 in
theorem bv_segC {l : Launch} {p : Program} {e : Env} {s : State} {m : MethodId} {below : List Frame} {meth : Method} {c : Code} {Q : State → Prop} {b L : Nat} {xs : Nat → Int32} {G : va_G} {cI : ClassId} {A : Nat → Prop} (hC : bv_LC p s m c b L xs G cI A) {x xp ap xb as ar am xm al ak : Nat} {qa bn : Nat} {pf bs br mt lv ks : Nat → Int32} {g : Int32} (hn7 : bn ≤ 7) (hB : bv_bsB bn bs br mt) (hg : g &&& 65535 = g) (hpf : pf 0 = g) {H : Heap} {locs : List Loc} (hP : va_P G vwCl [(x, .inr (3, [.ref xp, .ref xb, .ref xm])), (xp, .inr (2, [.ref ap, .int (nI 1)])), (ap, .inl (cI, 12, .inl pf)), (xb, .inr (0, [.ref as, .ref ar, .ref am, .int (nI bn)])), (as, .inl (cI, 10, .inl bs)), (ar, .inl (cI, 10, .inl br)), (am, .inl (cI, 1024, .inl mt)), (xm, .inr (1, [.ref al, .ref ak])), (al, .inl (cI, 16, .inl lv)), (ak, .inl (cI, 16, .inl ks))] H) (hD : va_D A [(x, .inr (3, [.ref xp, .ref xb, .ref xm])), (xp, .inr (2, [.ref ap, .int (nI 1)])), (ap, .inl (cI, 12, .inl pf)), (xb, .inr (0, [.ref as, .ref ar, .ref am, .int (nI bn)])), (as, .inl (cI, 10, .inl bs)), (ar, .inl (cI, 10, .inl br)), (am, .inl (cI, 1024, .inl mt)), (xm, .inr (1, [.ref al, .ref ak])), (al, .inl (cI, 16, .inl lv)), (ak, .inl (cI, 16, .inl ks))]) (hS : va_S A s.heap H locs) {ls : Array Slot} (hl : lv_has ls 18 [(8, .int (nI (bv_cnt (bv_is false bs bn g) (2 ^ bn)))), (7, .int (nI (bv_cnt (bv_is true bs bn g) (2 ^ bn)))), (5, .int g), (4, .int (nI (2 ^ bn - 1))), (1, .ref x), (0, .ref b)]) (kk : ∀ (H : Heap) (locs : List Loc) (ls : Array Slot), va_P G vwCl [(x, .inr (3, [.ref xp, .ref xb, .ref xm])), (xp, .inr (2, [.ref ap, .int (nI 1)])), (ap, .inl (cI, 12, .inl pf)), (xb, .inr (0, [.ref as, .ref ar, .ref am, .int (nI bn)])), (as, .inl (cI, 10, .inl bs)), (ar, .inl (cI, 10, .inl br)), (am, .inl (cI, 1024, .inl mt)), (xm, .inr (1, [.ref al, .ref ak])), (al, .inl (cI, 16, .inl lv)), (ak, .inl (cI, 16, .inl ks))] H → va_D A [(x, .inr (3, [.ref xp, .ref xb, .ref xm])), (xp, .inr (2, [.ref ap, .int (nI 1)])), (ap, .inl (cI, 12, .inl pf)), (xb, .inr (0, [.ref as, .ref ar, .ref am, .int (nI bn)])), (as, .inl (cI, 10, .inl bs)), (ar, .inl (cI, 10, .inl br)), (am, .inl (cI, 1024, .inl mt)), (xm, .inr (1, [.ref al, .ref ak])), (al, .inl (cI, 16, .inl lv)), (ak, .inl (cI, 16, .inl ks))] → va_S A s.heap H locs → lv_has ls 18 [(5, .int g), (4, .int (nI (2 ^ bn - 1))), (1, .ref x), (0, .ref b)] → W p l e room_1 s m #[Value.ref b] below meth c H locs 12 1119 Q (F0 m 269 ls [])) : W p l e room_1 s m #[Value.ref b] below meth c H locs 12 1119 Q (F0 m 202 ls []) := by
  obtain ⟨hx, hb, hml, hown, hts, hX9, hbl, hbA, hA, hXA, hE, hL5⟩ := hC
  have hK := hE.1
  have hP : va_P G vwCl [(x, .inr (3, [.ref xp, .ref xb, .ref xm])), (xp, .inr (2, [.ref ap, .int (nI 1)])), (ap, .inl (cI, 12, .inl pf)), (xb, .inr (0, [.ref as, .ref ar, .ref am, .int (nI bn)])), (as, .inl (cI, 10, .inl bs)), (ar, .inl (cI, 10, .inl br)), (am, .inl (cI, 1024, .inl mt)), (xm, .inr (1, [.ref al, .ref ak])), (al, .inl (cI, 16, .inl lv)), (ak, .inl (cI, 16, .inl ks))] H := hP
  have hD : va_D A [(x, .inr (3, [.ref xp, .ref xb, .ref xm])), (xp, .inr (2, [.ref ap, .int (nI 1)])), (ap, .inl (cI, 12, .inl pf)), (xb, .inr (0, [.ref as, .ref ar, .ref am, .int (nI bn)])), (as, .inl (cI, 10, .inl bs)), (ar, .inl (cI, 10, .inl br)), (am, .inl (cI, 1024, .inl mt)), (xm, .inr (1, [.ref al, .ref ak])), (al, .inl (cI, 16, .inl lv)), (ak, .inl (cI, 16, .inl ks))] := hD
  have hp10 : 2 ^ bn ≤ 1024 := bv_p10 (by omega)
  refine lv_iconst (pc := 202) (v := 0) hx hb dL_law_202 (by decide) ?_
  refine lv_istore (pc := 203) (lv' := [(10, .int 0), (8, .int (nI (bv_cnt (bv_is false bs bn g) (2 ^ bn)))), (7, .int (nI (bv_cnt (bv_is true bs bn g) (2 ^ bn)))), (5, .int g), (4, .int (nI (2 ^ bn - 1))), (1, .ref x), (0, .ref b)]) hx hb dL_law_203 hl (by decide) rfl (fun ls hl => ?_)
  have loop_205 : ∀ (fu9 : Nat) (rr : Nat), bv_cnt (bv_is false bs bn g) (2 ^ bn) - rr < fu9 → (rr ≤ bv_cnt (bv_is false bs bn g) (2 ^ bn)) → ∀ (H : Heap) (locs : List Loc), va_P G vwCl [(x, .inr (3, [.ref xp, .ref xb, .ref xm])), (xp, .inr (2, [.ref ap, .int (nI 1)])), (ap, .inl (cI, 12, .inl pf)), (xb, .inr (0, [.ref as, .ref ar, .ref am, .int (nI bn)])), (as, .inl (cI, 10, .inl bs)), (ar, .inl (cI, 10, .inl br)), (am, .inl (cI, 1024, .inl mt)), (xm, .inr (1, [.ref al, .ref ak])), (al, .inl (cI, 16, .inl lv)), (ak, .inl (cI, 16, .inl ks))] H → va_D A [(x, .inr (3, [.ref xp, .ref xb, .ref xm])), (xp, .inr (2, [.ref ap, .int (nI 1)])), (ap, .inl (cI, 12, .inl pf)), (xb, .inr (0, [.ref as, .ref ar, .ref am, .int (nI bn)])), (as, .inl (cI, 10, .inl bs)), (ar, .inl (cI, 10, .inl br)), (am, .inl (cI, 1024, .inl mt)), (xm, .inr (1, [.ref al, .ref ak])), (al, .inl (cI, 16, .inl lv)), (ak, .inl (cI, 16, .inl ks))] → va_S A s.heap H locs → ∀ (ls : Array Slot), lv_has ls 18 [(10, .int (nI rr)), (8, .int (nI (bv_cnt (bv_is false bs bn g) (2 ^ bn)))), (7, .int (nI (bv_cnt (bv_is true bs bn g) (2 ^ bn)))), (5, .int g), (4, .int (nI (2 ^ bn - 1))), (1, .ref x), (0, .ref b)] → W p l e room_1 s m #[Value.ref b] below meth c H locs 12 1119 Q (F0 m 205 ls []) := by
    intro fu9
    induction fu9 with
    | zero => intro rr hfu; exact absurd hfu (Nat.not_lt_zero _)
    | succ fu9 ih =>
      intro rr hfu hk H locs hP hD hS ls hl
      have ih_205 := ih
      refine lv_iload (pc := 205) hx hb dL_law_205 (lv_at hl 0 rfl) ?_
      refine lv_iload (pc := 207) hx hb dL_law_207 (lv_at hl 1 rfl) ?_
      refine lv_icmp_ge (pc := 209) (tgt := 269) hx hb dL_law_209 (by decide) (fun c209_1 => ?_) (fun c209_1 => ?_)
      · have hq_rr : bv_cnt (bv_is false bs bn g) (2 ^ bn) = rr := by
          by_cases q : rr < bv_cnt (bv_is false bs bn g) (2 ^ bn)
          · exact absurd c209_1 (nI_ge q (bv_cnt_s (by omega)))
          · omega
        exact kk _ _ _ hP hD hS (lv_sub hl [3, 4, 5, 6] rfl)
      · have hl_rr : rr < bv_cnt (bv_is false bs bn g) (2 ^ bn) := by
          by_cases q : rr < bv_cnt (bv_is false bs bn g) (2 ^ bn)
          · exact q
          · exact absurd (nI_le (by omega) (by have := bv_cnt_s (f := bv_is true bs bn g) (show bn ≤ 10 by omega); have := bv_cnt_s (f := bv_is false bs bn g) (show bn ≤ 10 by omega); omega)) c209_1
        refine lv_aload_n (pc := 212) hx hb dL_law_212 rfl (lv_at hl 5 rfl) ?_
        refine lv_aload_n (pc := 213) hx hb dL_law_213 rfl (lv_at hl 5 rfl) ?_
        refine lv_iload (pc := 214) hx hb dL_law_214 (lv_at hl 0 rfl) ?_
        obtain ⟨x9, hx9⟩ := bv_fnd_ex (f := bv_is false bs bn g) (2 ^ bn) hp10 hl_rr
        have hPc := hP.sub (ws' := [(x, .inr (3, [.ref xp, .ref xb, .ref xm])), (xp, .inr (2, [.ref ap, .int (nI 1)])), (ap, .inl (cI, 12, .inl pf)), (xb, .inr (0, [.ref as, .ref ar, .ref am, .int (nI bn)])), (as, .inl (cI, 10, .inl bs)), (ar, .inl (cI, 10, .inl br)), (am, .inl (cI, 1024, .inl mt)), (xm, .inr (1, [.ref al, .ref ak])), (al, .inl (cI, 16, .inl lv)), (ak, .inl (cI, 16, .inl ks))]) [0, 1, 2, 3, 4, 5, 6, 7, 8, 9] rfl
        refine bv_cSi (pc := 216) (E' := (nI x9)) (va_runV (As := [.int (nI rr)]) (rest := [.ref x]) ⟨hx, hb, hml, hown, hts⟩ (m_X3_remainder l G cI x xp ap 1 xb as ar am bn xm al ak pf bs br mt lv ks (nI rr) x9 (by decide) (by omega) hB.2.2.2 (by decide) (by rw [show pf (1 - 1) = g from hpf]; exact hx9)) (cwV 1 hts gL_law_X3_remainder rfl rfl rfl (by decide +kernel) ⟨Nat.le_of_ble_eq_true rfl, Nat.le_of_ble_eq_true rfl⟩) (bv_pV hE hPc (va_recv hK hP (ci := 3) (q0 := 0) rfl rfl)) rfl rfl hl.1 rfl (lv_room (Nat.le_of_ble_eq_true rfl)) dL_law_216 ⟨Nat.le_of_ble_eq_true rfl, Nat.le_of_ble_eq_true rfl⟩) rfl ?_
        have hPc := hP.sub (ws' := [(x, .inr (3, [.ref xp, .ref xb, .ref xm])), (xp, .inr (2, [.ref ap, .int (nI 1)])), (ap, .inl (cI, 12, .inl pf)), (xb, .inr (0, [.ref as, .ref ar, .ref am, .int (nI bn)])), (as, .inl (cI, 10, .inl bs)), (ar, .inl (cI, 10, .inl br)), (am, .inl (cI, 1024, .inl mt)), (xm, .inr (1, [.ref al, .ref ak])), (al, .inl (cI, 16, .inl lv)), (ak, .inl (cI, 16, .inl ks))]) [0, 1, 2, 3, 4, 5, 6, 7, 8, 9] rfl
        refine bv_cSi (pc := 219) (E' := (bv_b (bv_de bs bn x9 g))) (va_runV (As := [.int (nI x9)]) (rest := []) ⟨hx, hb, hml, hown, hts⟩ (m_X3_entails l G cI x xp ap 1 xb as ar am bn xm al ak pf bs br mt lv ks x9 (by decide) (by omega) hB.2.2.2 (bv_fnd_lt hx9) (by decide)) (cwV 1 hts gL_law_X3_entails rfl rfl rfl (by decide +kernel) ⟨Nat.le_of_ble_eq_true rfl, Nat.le_of_ble_eq_true rfl⟩) (bv_pV hE hPc (va_recv hK hP (ci := 3) (q0 := 0) rfl rfl)) rfl rfl hl.1 rfl (lv_room (Nat.le_of_ble_eq_true rfl)) dL_law_219 ⟨Nat.le_of_ble_eq_true rfl, Nat.le_of_ble_eq_true rfl⟩) (by rw [show pf (1 - 1) = g from hpf]) ?_
        refine lv_if_eq (pc := 222) (tgt := 227) hx hb dL_law_222 (by decide) (fun c222_6 => ?_) (fun c222_6 => ?_)
        · refine lv_iconst (pc := 227) (v := 0) hx hb dL_law_227 (by decide) ?_
          refine lv_istore (pc := 228) (lv' := [(11, .int 0), (10, .int (nI rr)), (8, .int (nI (bv_cnt (bv_is false bs bn g) (2 ^ bn)))), (7, .int (nI (bv_cnt (bv_is true bs bn g) (2 ^ bn)))), (5, .int g), (4, .int (nI (2 ^ bn - 1))), (1, .ref x), (0, .ref b)]) hx hb dL_law_228 hl (by decide) rfl (fun ls hl => ?_)
          have loop_230 : ∀ (fu9 : Nat) (kq : Nat), bv_cnt (bv_is true bs bn g) (2 ^ bn) - kq < fu9 → (kq ≤ bv_cnt (bv_is true bs bn g) (2 ^ bn)) → ∀ (H : Heap) (locs : List Loc), va_P G vwCl [(x, .inr (3, [.ref xp, .ref xb, .ref xm])), (xp, .inr (2, [.ref ap, .int (nI 1)])), (ap, .inl (cI, 12, .inl pf)), (xb, .inr (0, [.ref as, .ref ar, .ref am, .int (nI bn)])), (as, .inl (cI, 10, .inl bs)), (ar, .inl (cI, 10, .inl br)), (am, .inl (cI, 1024, .inl mt)), (xm, .inr (1, [.ref al, .ref ak])), (al, .inl (cI, 16, .inl lv)), (ak, .inl (cI, 16, .inl ks))] H → va_D A [(x, .inr (3, [.ref xp, .ref xb, .ref xm])), (xp, .inr (2, [.ref ap, .int (nI 1)])), (ap, .inl (cI, 12, .inl pf)), (xb, .inr (0, [.ref as, .ref ar, .ref am, .int (nI bn)])), (as, .inl (cI, 10, .inl bs)), (ar, .inl (cI, 10, .inl br)), (am, .inl (cI, 1024, .inl mt)), (xm, .inr (1, [.ref al, .ref ak])), (al, .inl (cI, 16, .inl lv)), (ak, .inl (cI, 16, .inl ks))] → va_S A s.heap H locs → ∀ (ls : Array Slot), lv_has ls 18 [(11, .int (nI kq)), (10, .int (nI rr)), (8, .int (nI (bv_cnt (bv_is false bs bn g) (2 ^ bn)))), (7, .int (nI (bv_cnt (bv_is true bs bn g) (2 ^ bn)))), (5, .int g), (4, .int (nI (2 ^ bn - 1))), (1, .ref x), (0, .ref b)] → W p l e room_1 s m #[Value.ref b] below meth c H locs 12 1119 Q (F0 m 230 ls []) := by
            intro fu9
            induction fu9 with
            | zero => intro kq hfu; exact absurd hfu (Nat.not_lt_zero _)
            | succ fu9 ih =>
              intro kq hfu hk2 H locs hP hD hS ls hl
              refine lv_iload (pc := 230) hx hb dL_law_230 (lv_at hl 0 rfl) ?_
              refine lv_iload (pc := 232) hx hb dL_law_232 (lv_at hl 3 rfl) ?_
              refine lv_icmp_ge (pc := 234) (tgt := 263) hx hb dL_law_234 (by decide) (fun c234_7 => ?_) (fun c234_7 => ?_)
              · have hq_kq : bv_cnt (bv_is true bs bn g) (2 ^ bn) = kq := by
                  by_cases q : kq < bv_cnt (bv_is true bs bn g) (2 ^ bn)
                  · exact absurd c234_7 (nI_ge q (bv_cnt_s (by omega)))
                  · omega
                refine lv_iinc (pc := 263) (v := (nI (rr + 1))) (lv' := [(10, .int (nI (rr + 1))), (11, .int (nI kq)), (8, .int (nI (bv_cnt (bv_is false bs bn g) (2 ^ bn)))), (7, .int (nI (bv_cnt (bv_is true bs bn g) (2 ^ bn)))), (5, .int g), (4, .int (nI (2 ^ bn - 1))), (1, .ref x), (0, .ref b)]) hx hb dL_law_263 hl (k := 1) rfl (nI_1 rr) (by decide) rfl (fun ls hl => ?_)
                refine lv_goto (pc := 266) (tgt := 205) hx hb dL_law_266 (by decide) ?_
                exact ih_205 (rr + 1) (by omega) (by omega) H _ hP hD hS ls (lv_sub hl [0, 2, 3, 4, 5, 6, 7] rfl)
              · have hl_kq : kq < bv_cnt (bv_is true bs bn g) (2 ^ bn) := by
                  by_cases q : kq < bv_cnt (bv_is true bs bn g) (2 ^ bn)
                  · exact q
                  · exact absurd (nI_le (by omega) (by have := bv_cnt_s (f := bv_is true bs bn g) (show bn ≤ 10 by omega); have := bv_cnt_s (f := bv_is false bs bn g) (show bn ≤ 10 by omega); omega)) c234_7
                refine lv_aload_n (pc := 237) hx hb dL_law_237 rfl (lv_at hl 6 rfl) ?_
                refine lv_iload (pc := 238) hx hb dL_law_238 (lv_at hl 0 rfl) ?_
                obtain ⟨y8, hy8⟩ := bv_fnd_ex (f := bv_is true bs bn g) (2 ^ bn) hp10 hl_kq
                have hPc := hP.sub (ws' := [(x, .inr (3, [.ref xp, .ref xb, .ref xm])), (xp, .inr (2, [.ref ap, .int (nI 1)])), (ap, .inl (cI, 12, .inl pf)), (xb, .inr (0, [.ref as, .ref ar, .ref am, .int (nI bn)])), (as, .inl (cI, 10, .inl bs)), (ar, .inl (cI, 10, .inl br)), (am, .inl (cI, 1024, .inl mt)), (xm, .inr (1, [.ref al, .ref ak])), (al, .inl (cI, 16, .inl lv)), (ak, .inl (cI, 16, .inl ks))]) [0, 1, 2, 3, 4, 5, 6, 7, 8, 9] rfl
                refine bv_cSi (pc := 240) (E' := (nI y8)) (va_runV (As := [.int (nI kq)]) (rest := []) ⟨hx, hb, hml, hown, hts⟩ (m_X3_kernel l G cI x xp ap 1 xb as ar am bn xm al ak pf bs br mt lv ks (nI kq) y8 (by decide) (by omega) hB.2.2.2 (by decide) (by rw [show pf (1 - 1) = g from hpf]; exact hy8)) (cwV 1 hts gL_law_X3_kernel rfl rfl rfl (by decide +kernel) ⟨Nat.le_of_ble_eq_true rfl, Nat.le_of_ble_eq_true rfl⟩) (bv_pV hE hPc (va_recv hK hP (ci := 3) (q0 := 0) rfl rfl)) rfl rfl hl.1 rfl (lv_room (Nat.le_of_ble_eq_true rfl)) dL_law_240 ⟨Nat.le_of_ble_eq_true rfl, Nat.le_of_ble_eq_true rfl⟩) rfl ?_
                refine lv_aload_n (pc := 243) hx hb dL_law_243 rfl (lv_at hl 6 rfl) ?_
                refine lv_iload (pc := 244) hx hb dL_law_244 (lv_at hl 1 rfl) ?_
                have hPc := hP.sub (ws' := [(x, .inr (3, [.ref xp, .ref xb, .ref xm])), (xp, .inr (2, [.ref ap, .int (nI 1)])), (ap, .inl (cI, 12, .inl pf)), (xb, .inr (0, [.ref as, .ref ar, .ref am, .int (nI bn)])), (as, .inl (cI, 10, .inl bs)), (ar, .inl (cI, 10, .inl br)), (am, .inl (cI, 1024, .inl mt)), (xm, .inr (1, [.ref al, .ref ak])), (al, .inl (cI, 16, .inl lv)), (ak, .inl (cI, 16, .inl ks))]) [0, 1, 2, 3, 4, 5, 6, 7, 8, 9] rfl
                refine bv_cSi (pc := 246) (E' := (nI x9)) (va_runV (As := [.int (nI rr)]) (rest := [.int (nI y8)]) ⟨hx, hb, hml, hown, hts⟩ (m_X3_remainder l G cI x xp ap 1 xb as ar am bn xm al ak pf bs br mt lv ks (nI rr) x9 (by decide) (by omega) hB.2.2.2 (by decide) (by rw [show pf (1 - 1) = g from hpf]; exact hx9)) (cwV 1 hts gL_law_X3_remainder rfl rfl rfl (by decide +kernel) ⟨Nat.le_of_ble_eq_true rfl, Nat.le_of_ble_eq_true rfl⟩) (bv_pV hE hPc (va_recv hK hP (ci := 3) (q0 := 0) rfl rfl)) rfl rfl hl.1 rfl (lv_room (Nat.le_of_ble_eq_true rfl)) dL_law_246 ⟨Nat.le_of_ble_eq_true rfl, Nat.le_of_ble_eq_true rfl⟩) rfl ?_
                refine lv_iconst (pc := 249) (v := (-1)) hx hb dL_law_249 (by decide) ?_
                refine lv_ixor (pc := 250) hx hb dL_law_250 ?_
                refine lv_iand (pc := 251) hx hb dL_law_251 ?_
                refine lv_if_ne (pc := 252) (tgt := 257) hx hb dL_law_252 (by decide) (fun c252_12 => ?_) (fun c252_12 => ?_)
                · refine lv_iinc (pc := 257) (v := (nI (kq + 1))) (lv' := [(11, .int (nI (kq + 1))), (10, .int (nI rr)), (8, .int (nI (bv_cnt (bv_is false bs bn g) (2 ^ bn)))), (7, .int (nI (bv_cnt (bv_is true bs bn g) (2 ^ bn)))), (5, .int g), (4, .int (nI (2 ^ bn - 1))), (1, .ref x), (0, .ref b)]) hx hb dL_law_257 hl (k := 0) rfl (nI_1 kq) (by decide) rfl (fun ls hl => ?_)
                  refine lv_goto (pc := 260) (tgt := 230) hx hb dL_law_260 (by decide) ?_
                  exact ih (kq + 1) (by omega) (by omega) H _ hP hD hS ls (lv_sub hl [0, 1, 2, 3, 4, 5, 6, 7] rfl)
                · exact absurd c252_12 (bv_T6 (by omega) (bv_fnd_lt hx9) (bv_fnd_lt hy8) (bv_fnd_ok hx9) (bv_fnd_ok hy8))
          exact loop_230 (bv_cnt (bv_is true bs bn g) (2 ^ bn) - 0 + 1) 0 (Nat.lt_succ_self _) (Nat.zero_le _) H _ hP hD hS ls (lv_sub hl [0, 1, 2, 3, 4, 5, 6, 7] rfl)
        · exact absurd (by rw [bv_ir_de (bs := bs) (bn := bn) (t := x9) (g := g) (bv_fnd_ok hx9)]; rfl) c222_6
  exact loop_205 (bv_cnt (bv_is false bs bn g) (2 ^ bn) - 0 + 1) 0 (Nat.lt_succ_self _) (Nat.zero_le _) H _ hP hD hS ls (lv_sub hl [0, 1, 2, 3, 4, 5, 6] rfl)
set_option maxHeartbeats 4000000 in
set_option maxRecDepth 100000 in
theorem bv_segD {l : Launch} {p : Program} {e : Env} {s : State} {m : MethodId} {below : List Frame} {meth : Method} {c : Code} {Q : State → Prop} {b L : Nat} {xs : Nat → Int32} {G : va_G} {cI : ClassId} {A : Nat → Prop} (hC : bv_LC p s m c b L xs G cI A) {x xp ap xb as ar am xm al ak : Nat} {qa bn : Nat} {pf bs br mt lv ks : Nat → Int32} {g : Int32} (hn7 : bn ≤ 7) (hB : bv_bsB bn bs br mt) (hg : g &&& 65535 = g) (hpf : pf 0 = g) {H : Heap} {locs : List Loc} (hP : va_P G vwCl [(x, .inr (3, [.ref xp, .ref xb, .ref xm])), (xp, .inr (2, [.ref ap, .int (nI 1)])), (ap, .inl (cI, 12, .inl pf)), (xb, .inr (0, [.ref as, .ref ar, .ref am, .int (nI bn)])), (as, .inl (cI, 10, .inl bs)), (ar, .inl (cI, 10, .inl br)), (am, .inl (cI, 1024, .inl mt)), (xm, .inr (1, [.ref al, .ref ak])), (al, .inl (cI, 16, .inl lv)), (ak, .inl (cI, 16, .inl ks))] H) (hD : va_D A [(x, .inr (3, [.ref xp, .ref xb, .ref xm])), (xp, .inr (2, [.ref ap, .int (nI 1)])), (ap, .inl (cI, 12, .inl pf)), (xb, .inr (0, [.ref as, .ref ar, .ref am, .int (nI bn)])), (as, .inl (cI, 10, .inl bs)), (ar, .inl (cI, 10, .inl br)), (am, .inl (cI, 1024, .inl mt)), (xm, .inr (1, [.ref al, .ref ak])), (al, .inl (cI, 16, .inl lv)), (ak, .inl (cI, 16, .inl ks))]) (hS : va_S A s.heap H locs) {ls : Array Slot} (hl : lv_has ls 18 [(5, .int g), (4, .int (nI (2 ^ bn - 1))), (1, .ref x), (0, .ref b)]) (kk : ∀ (H : Heap) (locs : List Loc) (ls : Array Slot), va_P G vwCl [(x, .inr (3, [.ref xp, .ref xb, .ref xm])), (xp, .inr (2, [.ref ap, .int (nI 1)])), (ap, .inl (cI, 12, .inl pf)), (xb, .inr (0, [.ref as, .ref ar, .ref am, .int (nI bn)])), (as, .inl (cI, 10, .inl bs)), (ar, .inl (cI, 10, .inl br)), (am, .inl (cI, 1024, .inl mt)), (xm, .inr (1, [.ref al, .ref ak])), (al, .inl (cI, 16, .inl (bv_loaded bs br bn lv))), (ak, .inl (cI, 16, .inl ks))] H → va_D A [(x, .inr (3, [.ref xp, .ref xb, .ref xm])), (xp, .inr (2, [.ref ap, .int (nI 1)])), (ap, .inl (cI, 12, .inl pf)), (xb, .inr (0, [.ref as, .ref ar, .ref am, .int (nI bn)])), (as, .inl (cI, 10, .inl bs)), (ar, .inl (cI, 10, .inl br)), (am, .inl (cI, 1024, .inl mt)), (xm, .inr (1, [.ref al, .ref ak])), (al, .inl (cI, 16, .inl (bv_loaded bs br bn lv))), (ak, .inl (cI, 16, .inl ks))] → va_S A s.heap H locs → lv_has ls 18 [(10, .int (nI 0)), (5, .int g), (1, .ref x), (0, .ref b)] → W p l e room_1 s m #[Value.ref b] below meth c H locs 12 1119 Q (F0 m 322 ls [])) : W p l e room_1 s m #[Value.ref b] below meth c H locs 12 1119 Q (F0 m 269 ls []) := by
  obtain ⟨hx, hb, hml, hown, hts, hX9, hbl, hbA, hA, hXA, hE, hL5⟩ := hC
  have hK := hE.1
  have hP : va_P G vwCl [(x, .inr (3, [.ref xp, .ref xb, .ref xm])), (xp, .inr (2, [.ref ap, .int (nI 1)])), (ap, .inl (cI, 12, .inl pf)), (xb, .inr (0, [.ref as, .ref ar, .ref am, .int (nI bn)])), (as, .inl (cI, 10, .inl bs)), (ar, .inl (cI, 10, .inl br)), (am, .inl (cI, 1024, .inl mt)), (xm, .inr (1, [.ref al, .ref ak])), (al, .inl (cI, 16, .inl lv)), (ak, .inl (cI, 16, .inl ks))] H := hP
  have hD : va_D A [(x, .inr (3, [.ref xp, .ref xb, .ref xm])), (xp, .inr (2, [.ref ap, .int (nI 1)])), (ap, .inl (cI, 12, .inl pf)), (xb, .inr (0, [.ref as, .ref ar, .ref am, .int (nI bn)])), (as, .inl (cI, 10, .inl bs)), (ar, .inl (cI, 10, .inl br)), (am, .inl (cI, 1024, .inl mt)), (xm, .inr (1, [.ref al, .ref ak])), (al, .inl (cI, 16, .inl lv)), (ak, .inl (cI, 16, .inl ks))] := hD
  refine lv_aload_n (pc := 269) hx hb dL_law_269 rfl (lv_at hl 2 rfl) ?_
  have hPc := hP.sub (ws' := [(x, .inr (3, [.ref xp, .ref xb, .ref xm])), (xp, .inr (2, [.ref ap, .int (nI 1)])), (ap, .inl (cI, 12, .inl pf)), (xb, .inr (0, [.ref as, .ref ar, .ref am, .int (nI bn)])), (as, .inl (cI, 10, .inl bs)), (ar, .inl (cI, 10, .inl br)), (am, .inl (cI, 1024, .inl mt)), (xm, .inr (1, [.ref al, .ref ak])), (al, .inl (cI, 16, .inl lv)), (ak, .inl (cI, 16, .inl ks))]) [0, 1, 2, 3, 4, 5, 6, 7, 8, 9] rfl
  refine bv_cSi (pc := 270) (E' := (bv_core bs br bn)) (va_runV (As := []) (rest := []) ⟨hx, hb, hml, hown, hts⟩ (m_X3_core l G cI x xp ap 1 xb as ar am bn xm al ak pf bs br mt lv ks (by decide) (by omega) hB.2.2.2) (cwV 0 hts gL_law_X3_core rfl rfl rfl (by decide +kernel) ⟨Nat.le_of_ble_eq_true rfl, Nat.le_of_ble_eq_true rfl⟩) (bv_pV hE hPc (va_recv hK hP (ci := 3) (q0 := 0) rfl rfl)) rfl rfl hl.1 rfl (lv_room (Nat.le_of_ble_eq_true rfl)) dL_law_270 ⟨Nat.le_of_ble_eq_true rfl, Nat.le_of_ble_eq_true rfl⟩) rfl ?_
  refine lv_if_eq (pc := 273) (tgt := 312) hx hb dL_law_273 (by decide) (fun c273_3 => ?_) (fun c273_3 => ?_)
  · exact absurd c273_3 (bv_T7a hB.2.2.1)
  · refine lv_aload_n (pc := 276) hx hb dL_law_276 rfl (lv_at hl 2 rfl) ?_
    have hPc := hP.sub (ws' := [(x, .inr (3, [.ref xp, .ref xb, .ref xm])), (xp, .inr (2, [.ref ap, .int (nI 1)])), (ap, .inl (cI, 12, .inl pf)), (xb, .inr (0, [.ref as, .ref ar, .ref am, .int (nI bn)])), (as, .inl (cI, 10, .inl bs)), (ar, .inl (cI, 10, .inl br)), (am, .inl (cI, 1024, .inl mt)), (xm, .inr (1, [.ref al, .ref ak])), (al, .inl (cI, 16, .inl lv)), (ak, .inl (cI, 16, .inl ks))]) [0, 1, 2, 3, 4, 5, 6, 7, 8, 9] rfl
    refine bv_cSi (pc := 277) (E' := (nI (bv_degn bs br bn 0))) (va_runV (As := []) (rest := []) ⟨hx, hb, hml, hown, hts⟩ (m_X3_conflict l G cI x xp ap 1 xb as ar am bn xm al ak pf bs br mt lv ks (by decide) (by omega) hB.2.2.2) (cwV 0 hts gL_law_X3_conflict rfl rfl rfl (by decide +kernel) ⟨Nat.le_of_ble_eq_true rfl, Nat.le_of_ble_eq_true rfl⟩) (bv_pV hE hPc (va_recv hK hP (ci := 3) (q0 := 0) rfl rfl)) rfl rfl hl.1 rfl (lv_room (Nat.le_of_ble_eq_true rfl)) dL_law_277 ⟨Nat.le_of_ble_eq_true rfl, Nat.le_of_ble_eq_true rfl⟩) rfl ?_
    refine lv_if_ne (pc := 280) (tgt := 296) hx hb dL_law_280 (by decide) (fun c280_6 => ?_) (fun c280_6 => ?_)
    · refine lv_aload_n (pc := 296) hx hb dL_law_296 rfl (lv_at hl 2 rfl) ?_
      refine lv_iload (pc := 297) hx hb dL_law_297 (lv_at hl 1 rfl) ?_
      have hPc := hP.sub (ws' := [(x, .inr (3, [.ref xp, .ref xb, .ref xm])), (xp, .inr (2, [.ref ap, .int (nI 1)])), (ap, .inl (cI, 12, .inl pf)), (xb, .inr (0, [.ref as, .ref ar, .ref am, .int (nI bn)])), (as, .inl (cI, 10, .inl bs)), (ar, .inl (cI, 10, .inl br)), (am, .inl (cI, 1024, .inl mt)), (xm, .inr (1, [.ref al, .ref ak])), (al, .inl (cI, 16, .inl lv)), (ak, .inl (cI, 16, .inl ks))]) [0, 1, 2, 3, 4, 5, 6, 7, 8, 9] rfl
      refine bv_cSi (pc := 299) (E' := (bv_wi bs (2 ^ bn - 1) bn)) (va_runV (As := [.int (nI (2 ^ bn - 1))]) (rest := []) ⟨hx, hb, hml, hown, hts⟩ (m_X3_worlds l G cI x xp ap 1 xb as ar am bn xm al ak pf bs br mt lv ks (2 ^ bn - 1) (by decide) (by omega) hB.2.2.2 (bv_alll bn)) (cwV 1 hts gL_law_X3_worlds rfl rfl rfl (by decide +kernel) ⟨Nat.le_of_ble_eq_true rfl, Nat.le_of_ble_eq_true rfl⟩) (bv_pV hE hPc (va_recv hK hP (ci := 3) (q0 := 0) rfl rfl)) rfl rfl hl.1 rfl (lv_room (Nat.le_of_ble_eq_true rfl)) dL_law_299 ⟨Nat.le_of_ble_eq_true rfl, Nat.le_of_ble_eq_true rfl⟩) rfl ?_
      refine lv_aload_n (pc := 302) hx hb dL_law_302 rfl (lv_at hl 2 rfl) ?_
      have hPc := hP.sub (ws' := [(x, .inr (3, [.ref xp, .ref xb, .ref xm])), (xp, .inr (2, [.ref ap, .int (nI 1)])), (ap, .inl (cI, 12, .inl pf)), (xb, .inr (0, [.ref as, .ref ar, .ref am, .int (nI bn)])), (as, .inl (cI, 10, .inl bs)), (ar, .inl (cI, 10, .inl br)), (am, .inl (cI, 1024, .inl mt)), (xm, .inr (1, [.ref al, .ref ak])), (al, .inl (cI, 16, .inl lv)), (ak, .inl (cI, 16, .inl ks))]) [0, 1, 2, 3, 4, 5, 6, 7, 8, 9] rfl
      refine bv_cSi (pc := 303) (E' := (bv_core bs br bn)) (va_runV (As := []) (rest := [.int (bv_wi bs (2 ^ bn - 1) bn)]) ⟨hx, hb, hml, hown, hts⟩ (m_X3_core l G cI x xp ap 1 xb as ar am bn xm al ak pf bs br mt lv ks (by decide) (by omega) hB.2.2.2) (cwV 0 hts gL_law_X3_core rfl rfl rfl (by decide +kernel) ⟨Nat.le_of_ble_eq_true rfl, Nat.le_of_ble_eq_true rfl⟩) (bv_pV hE hPc (va_recv hK hP (ci := 3) (q0 := 0) rfl rfl)) rfl rfl hl.1 rfl (lv_room (Nat.le_of_ble_eq_true rfl)) dL_law_303 ⟨Nat.le_of_ble_eq_true rfl, Nat.le_of_ble_eq_true rfl⟩) rfl ?_
      refine lv_iconst (pc := 306) (v := (-1)) hx hb dL_law_306 (by decide) ?_
      refine lv_ixor (pc := 307) hx hb dL_law_307 ?_
      refine lv_iand (pc := 308) hx hb dL_law_308 ?_
      refine lv_if_eq (pc := 309) (tgt := 314) hx hb dL_law_309 (by decide) (fun c309_11 => ?_) (fun c309_11 => ?_)
      · refine lv_aload_n (pc := 314) hx hb dL_law_314 rfl (lv_at hl 2 rfl) ?_
        have hPc := hP.sub (ws' := [(x, .inr (3, [.ref xp, .ref xb, .ref xm])), (xp, .inr (2, [.ref ap, .int (nI 1)])), (ap, .inl (cI, 12, .inl pf)), (xb, .inr (0, [.ref as, .ref ar, .ref am, .int (nI bn)])), (as, .inl (cI, 10, .inl bs)), (ar, .inl (cI, 10, .inl br)), (am, .inl (cI, 1024, .inl mt)), (xm, .inr (1, [.ref al, .ref ak])), (al, .inl (cI, 16, .inl lv)), (ak, .inl (cI, 16, .inl ks))]) [0, 1, 2, 3, 4, 5, 6, 7, 8, 9] rfl
        have hDc := hD.sub (ws' := [(x, .inr (3, [.ref xp, .ref xb, .ref xm])), (xp, .inr (2, [.ref ap, .int (nI 1)])), (ap, .inl (cI, 12, .inl pf)), (xb, .inr (0, [.ref as, .ref ar, .ref am, .int (nI bn)])), (as, .inl (cI, 10, .inl bs)), (ar, .inl (cI, 10, .inl br)), (am, .inl (cI, 1024, .inl mt)), (xm, .inr (1, [.ref al, .ref ak])), (al, .inl (cI, 16, .inl lv)), (ak, .inl (cI, 16, .inl ks))]) [0, 1, 2, 3, 4, 5, 6, 7, 8, 9] (by decide) rfl
        have hFc := va_free (wc := [(x, .inr (3, [.ref xp, .ref xb, .ref xm])), (xp, .inr (2, [.ref ap, .int (nI 1)])), (ap, .inl (cI, 12, .inl pf)), (xb, .inr (0, [.ref as, .ref ar, .ref am, .int (nI bn)])), (as, .inl (cI, 10, .inl bs)), (ar, .inl (cI, 10, .inl br)), (am, .inl (cI, 1024, .inl mt)), (xm, .inr (1, [.ref al, .ref ak])), (al, .inl (cI, 16, .inl lv)), (ak, .inl (cI, 16, .inl ks))]) hD hS hA [0, 1, 2, 3, 4, 5, 6, 7, 8, 9] rfl
        refine bv_cMi (pc := 315) (E' := (bv_open (bv_loaded bs br bn lv))) (va_runV (As := []) (rest := []) ⟨hx, hb, hml, hown, hts⟩ (m_X3_load l G cI H.size x xp ap 1 xb as ar am bn xm al ak pf bs br mt lv ks (by decide) (by omega) hB.2.2.2) (cwV 0 hts gL_law_X3_load rfl rfl rfl (by decide +kernel) ⟨Nat.le_of_ble_eq_true rfl, Nat.le_of_ble_eq_true rfl⟩) (bv_pV hE ⟨rfl, hPc, hDc.weaken (fun _ _ _ _ => trivial)⟩ (va_recv hK hP (ci := 3) (q0 := 0) rfl rfl)) rfl rfl hl.1 rfl (lv_room (Nat.le_of_ble_eq_true rfl)) dL_law_315 ⟨Nat.le_of_ble_eq_true rfl, Nat.le_of_ble_eq_true rfl⟩) hS (fun q _ h => hFc q h) hFc rfl (fun t8 H1 locs ht8 hvm8 hB8 hz1 hk1 hS => ?_)
        have hP1 : va_P G vwCl [(x, .inr (3, [.ref xp, .ref xb, .ref xm])), (xp, .inr (2, [.ref ap, .int (nI 1)])), (ap, .inl (cI, 12, .inl pf)), (xb, .inr (0, [.ref as, .ref ar, .ref am, .int (nI bn)])), (as, .inl (cI, 10, .inl bs)), (ar, .inl (cI, 10, .inl br)), (am, .inl (cI, 1024, .inl mt)), (xm, .inr (1, [.ref al, .ref ak])), (al, .inl (cI, 16, .inl (bv_loaded bs br bn lv))), (ak, .inl (cI, 16, .inl ks))] H1 := by rw [← ht8]; exact hB8
        obtain ⟨hP, hD⟩ := va_join (wr := []) (w1 := [(x, .inr (3, [.ref xp, .ref xb, .ref xm])), (xp, .inr (2, [.ref ap, .int (nI 1)])), (ap, .inl (cI, 12, .inl pf)), (xb, .inr (0, [.ref as, .ref ar, .ref am, .int (nI bn)])), (as, .inl (cI, 10, .inl bs)), (ar, .inl (cI, 10, .inl br)), (am, .inl (cI, 1024, .inl mt)), (xm, .inr (1, [.ref al, .ref ak])), (al, .inl (cI, 16, .inl (bv_loaded bs br bn lv))), (ak, .inl (cI, 16, .inl ks))]) hP hD [0, 1, 2, 3, 4, 5, 6, 7, 8, 9] [] rfl rfl (by decide) (by decide) hk1 hFc hP1 (bv_Dm (w0 := [(x, .inr (3, [.ref xp, .ref xb, .ref xm])), (xp, .inr (2, [.ref ap, .int (nI 1)])), (ap, .inl (cI, 12, .inl pf)), (xb, .inr (0, [.ref as, .ref ar, .ref am, .int (nI bn)])), (as, .inl (cI, 10, .inl bs)), (ar, .inl (cI, 10, .inl br)), (am, .inl (cI, 1024, .inl mt)), (xm, .inr (1, [.ref al, .ref ak])), (al, .inl (cI, 16, .inl lv)), (ak, .inl (cI, 16, .inl ks))]) [x, xp, ap, xb, as, ar, am, xm, al, ak] rfl rfl hDc.self)
        have hP : va_P G vwCl [(x, .inr (3, [.ref xp, .ref xb, .ref xm])), (xp, .inr (2, [.ref ap, .int (nI 1)])), (ap, .inl (cI, 12, .inl pf)), (xb, .inr (0, [.ref as, .ref ar, .ref am, .int (nI bn)])), (as, .inl (cI, 10, .inl bs)), (ar, .inl (cI, 10, .inl br)), (am, .inl (cI, 1024, .inl mt)), (xm, .inr (1, [.ref al, .ref ak])), (al, .inl (cI, 16, .inl (bv_loaded bs br bn lv))), (ak, .inl (cI, 16, .inl ks))] H1 := hP.sub (ws' := [(x, .inr (3, [.ref xp, .ref xb, .ref xm])), (xp, .inr (2, [.ref ap, .int (nI 1)])), (ap, .inl (cI, 12, .inl pf)), (xb, .inr (0, [.ref as, .ref ar, .ref am, .int (nI bn)])), (as, .inl (cI, 10, .inl bs)), (ar, .inl (cI, 10, .inl br)), (am, .inl (cI, 1024, .inl mt)), (xm, .inr (1, [.ref al, .ref ak])), (al, .inl (cI, 16, .inl (bv_loaded bs br bn lv))), (ak, .inl (cI, 16, .inl ks))]) [0, 1, 2, 3, 4, 5, 6, 7, 8, 9] rfl
        have hD : va_D A [(x, .inr (3, [.ref xp, .ref xb, .ref xm])), (xp, .inr (2, [.ref ap, .int (nI 1)])), (ap, .inl (cI, 12, .inl pf)), (xb, .inr (0, [.ref as, .ref ar, .ref am, .int (nI bn)])), (as, .inl (cI, 10, .inl bs)), (ar, .inl (cI, 10, .inl br)), (am, .inl (cI, 1024, .inl mt)), (xm, .inr (1, [.ref al, .ref ak])), (al, .inl (cI, 16, .inl (bv_loaded bs br bn lv))), (ak, .inl (cI, 16, .inl ks))] := hD.sub (ws' := [(x, .inr (3, [.ref xp, .ref xb, .ref xm])), (xp, .inr (2, [.ref ap, .int (nI 1)])), (ap, .inl (cI, 12, .inl pf)), (xb, .inr (0, [.ref as, .ref ar, .ref am, .int (nI bn)])), (as, .inl (cI, 10, .inl bs)), (ar, .inl (cI, 10, .inl br)), (am, .inl (cI, 1024, .inl mt)), (xm, .inr (1, [.ref al, .ref ak])), (al, .inl (cI, 16, .inl (bv_loaded bs br bn lv))), (ak, .inl (cI, 16, .inl ks))]) [0, 1, 2, 3, 4, 5, 6, 7, 8, 9] (by decide) rfl
        generalize H1 = H at hP hS ⊢
        refine lv_pop (pc := 318) hx hb dL_law_318 rfl ?_
        refine lv_iconst (pc := 319) (v := 0) hx hb dL_law_319 (by decide) ?_
        refine lv_istore (pc := 320) (lv' := [(10, .int 0), (5, .int g), (4, .int (nI (2 ^ bn - 1))), (1, .ref x), (0, .ref b)]) hx hb dL_law_320 hl (by decide) rfl (fun ls hl => ?_)
        exact kk _ _ _ hP hD hS (lv_sub hl [0, 1, 3, 4] rfl)
      · exact absurd bv_T7c c309_11
    · have hc0 : bv_degn bs br bn 0 = 0 := (nI_eq (b := 0) (by have := bv_degn_le bs br bn 0; omega) (by decide)).mp c280_6
      refine lv_aload_n (pc := 283) hx hb dL_law_283 rfl (lv_at hl 2 rfl) ?_
      have hPc := hP.sub (ws' := [(x, .inr (3, [.ref xp, .ref xb, .ref xm])), (xp, .inr (2, [.ref ap, .int (nI 1)])), (ap, .inl (cI, 12, .inl pf)), (xb, .inr (0, [.ref as, .ref ar, .ref am, .int (nI bn)])), (as, .inl (cI, 10, .inl bs)), (ar, .inl (cI, 10, .inl br)), (am, .inl (cI, 1024, .inl mt)), (xm, .inr (1, [.ref al, .ref ak])), (al, .inl (cI, 16, .inl lv)), (ak, .inl (cI, 16, .inl ks))]) [0, 1, 2, 3, 4, 5, 6, 7, 8, 9] rfl
      refine bv_cSi (pc := 284) (E' := (bv_core bs br bn)) (va_runV (As := []) (rest := []) ⟨hx, hb, hml, hown, hts⟩ (m_X3_core l G cI x xp ap 1 xb as ar am bn xm al ak pf bs br mt lv ks (by decide) (by omega) hB.2.2.2) (cwV 0 hts gL_law_X3_core rfl rfl rfl (by decide +kernel) ⟨Nat.le_of_ble_eq_true rfl, Nat.le_of_ble_eq_true rfl⟩) (bv_pV hE hPc (va_recv hK hP (ci := 3) (q0 := 0) rfl rfl)) rfl rfl hl.1 rfl (lv_room (Nat.le_of_ble_eq_true rfl)) dL_law_284 ⟨Nat.le_of_ble_eq_true rfl, Nat.le_of_ble_eq_true rfl⟩) rfl ?_
      refine lv_aload_n (pc := 287) hx hb dL_law_287 rfl (lv_at hl 2 rfl) ?_
      refine lv_iload (pc := 288) hx hb dL_law_288 (lv_at hl 1 rfl) ?_
      have hPc := hP.sub (ws' := [(x, .inr (3, [.ref xp, .ref xb, .ref xm])), (xp, .inr (2, [.ref ap, .int (nI 1)])), (ap, .inl (cI, 12, .inl pf)), (xb, .inr (0, [.ref as, .ref ar, .ref am, .int (nI bn)])), (as, .inl (cI, 10, .inl bs)), (ar, .inl (cI, 10, .inl br)), (am, .inl (cI, 1024, .inl mt)), (xm, .inr (1, [.ref al, .ref ak])), (al, .inl (cI, 16, .inl lv)), (ak, .inl (cI, 16, .inl ks))]) [0, 1, 2, 3, 4, 5, 6, 7, 8, 9] rfl
      refine bv_cSi (pc := 290) (E' := (bv_wi bs (2 ^ bn - 1) bn)) (va_runV (As := [.int (nI (2 ^ bn - 1))]) (rest := [.int (bv_core bs br bn)]) ⟨hx, hb, hml, hown, hts⟩ (m_X3_worlds l G cI x xp ap 1 xb as ar am bn xm al ak pf bs br mt lv ks (2 ^ bn - 1) (by decide) (by omega) hB.2.2.2 (bv_alll bn)) (cwV 1 hts gL_law_X3_worlds rfl rfl rfl (by decide +kernel) ⟨Nat.le_of_ble_eq_true rfl, Nat.le_of_ble_eq_true rfl⟩) (bv_pV hE hPc (va_recv hK hP (ci := 3) (q0 := 0) rfl rfl)) rfl rfl hl.1 rfl (lv_room (Nat.le_of_ble_eq_true rfl)) dL_law_290 ⟨Nat.le_of_ble_eq_true rfl, Nat.le_of_ble_eq_true rfl⟩) rfl ?_
      refine lv_icmp_ne (pc := 293) (tgt := 312) hx hb dL_law_293 (by decide) (fun c293_18 => ?_) (fun c293_18 => ?_)
      · exact absurd (bv_T7b hB.2.2.1 hc0) c293_18
      · refine lv_aload_n (pc := 296) hx hb dL_law_296 rfl (lv_at hl 2 rfl) ?_
        refine lv_iload (pc := 297) hx hb dL_law_297 (lv_at hl 1 rfl) ?_
        have hPc := hP.sub (ws' := [(x, .inr (3, [.ref xp, .ref xb, .ref xm])), (xp, .inr (2, [.ref ap, .int (nI 1)])), (ap, .inl (cI, 12, .inl pf)), (xb, .inr (0, [.ref as, .ref ar, .ref am, .int (nI bn)])), (as, .inl (cI, 10, .inl bs)), (ar, .inl (cI, 10, .inl br)), (am, .inl (cI, 1024, .inl mt)), (xm, .inr (1, [.ref al, .ref ak])), (al, .inl (cI, 16, .inl lv)), (ak, .inl (cI, 16, .inl ks))]) [0, 1, 2, 3, 4, 5, 6, 7, 8, 9] rfl
        refine bv_cSi (pc := 299) (E' := (bv_wi bs (2 ^ bn - 1) bn)) (va_runV (As := [.int (nI (2 ^ bn - 1))]) (rest := []) ⟨hx, hb, hml, hown, hts⟩ (m_X3_worlds l G cI x xp ap 1 xb as ar am bn xm al ak pf bs br mt lv ks (2 ^ bn - 1) (by decide) (by omega) hB.2.2.2 (bv_alll bn)) (cwV 1 hts gL_law_X3_worlds rfl rfl rfl (by decide +kernel) ⟨Nat.le_of_ble_eq_true rfl, Nat.le_of_ble_eq_true rfl⟩) (bv_pV hE hPc (va_recv hK hP (ci := 3) (q0 := 0) rfl rfl)) rfl rfl hl.1 rfl (lv_room (Nat.le_of_ble_eq_true rfl)) dL_law_299 ⟨Nat.le_of_ble_eq_true rfl, Nat.le_of_ble_eq_true rfl⟩) rfl ?_
        refine lv_aload_n (pc := 302) hx hb dL_law_302 rfl (lv_at hl 2 rfl) ?_
        have hPc := hP.sub (ws' := [(x, .inr (3, [.ref xp, .ref xb, .ref xm])), (xp, .inr (2, [.ref ap, .int (nI 1)])), (ap, .inl (cI, 12, .inl pf)), (xb, .inr (0, [.ref as, .ref ar, .ref am, .int (nI bn)])), (as, .inl (cI, 10, .inl bs)), (ar, .inl (cI, 10, .inl br)), (am, .inl (cI, 1024, .inl mt)), (xm, .inr (1, [.ref al, .ref ak])), (al, .inl (cI, 16, .inl lv)), (ak, .inl (cI, 16, .inl ks))]) [0, 1, 2, 3, 4, 5, 6, 7, 8, 9] rfl
        refine bv_cSi (pc := 303) (E' := (bv_core bs br bn)) (va_runV (As := []) (rest := [.int (bv_wi bs (2 ^ bn - 1) bn)]) ⟨hx, hb, hml, hown, hts⟩ (m_X3_core l G cI x xp ap 1 xb as ar am bn xm al ak pf bs br mt lv ks (by decide) (by omega) hB.2.2.2) (cwV 0 hts gL_law_X3_core rfl rfl rfl (by decide +kernel) ⟨Nat.le_of_ble_eq_true rfl, Nat.le_of_ble_eq_true rfl⟩) (bv_pV hE hPc (va_recv hK hP (ci := 3) (q0 := 0) rfl rfl)) rfl rfl hl.1 rfl (lv_room (Nat.le_of_ble_eq_true rfl)) dL_law_303 ⟨Nat.le_of_ble_eq_true rfl, Nat.le_of_ble_eq_true rfl⟩) rfl ?_
        refine lv_iconst (pc := 306) (v := (-1)) hx hb dL_law_306 (by decide) ?_
        refine lv_ixor (pc := 307) hx hb dL_law_307 ?_
        refine lv_iand (pc := 308) hx hb dL_law_308 ?_
        refine lv_if_eq (pc := 309) (tgt := 314) hx hb dL_law_309 (by decide) (fun c309_23 => ?_) (fun c309_23 => ?_)
        · refine lv_aload_n (pc := 314) hx hb dL_law_314 rfl (lv_at hl 2 rfl) ?_
          have hPc := hP.sub (ws' := [(x, .inr (3, [.ref xp, .ref xb, .ref xm])), (xp, .inr (2, [.ref ap, .int (nI 1)])), (ap, .inl (cI, 12, .inl pf)), (xb, .inr (0, [.ref as, .ref ar, .ref am, .int (nI bn)])), (as, .inl (cI, 10, .inl bs)), (ar, .inl (cI, 10, .inl br)), (am, .inl (cI, 1024, .inl mt)), (xm, .inr (1, [.ref al, .ref ak])), (al, .inl (cI, 16, .inl lv)), (ak, .inl (cI, 16, .inl ks))]) [0, 1, 2, 3, 4, 5, 6, 7, 8, 9] rfl
          have hDc := hD.sub (ws' := [(x, .inr (3, [.ref xp, .ref xb, .ref xm])), (xp, .inr (2, [.ref ap, .int (nI 1)])), (ap, .inl (cI, 12, .inl pf)), (xb, .inr (0, [.ref as, .ref ar, .ref am, .int (nI bn)])), (as, .inl (cI, 10, .inl bs)), (ar, .inl (cI, 10, .inl br)), (am, .inl (cI, 1024, .inl mt)), (xm, .inr (1, [.ref al, .ref ak])), (al, .inl (cI, 16, .inl lv)), (ak, .inl (cI, 16, .inl ks))]) [0, 1, 2, 3, 4, 5, 6, 7, 8, 9] (by decide) rfl
          have hFc := va_free (wc := [(x, .inr (3, [.ref xp, .ref xb, .ref xm])), (xp, .inr (2, [.ref ap, .int (nI 1)])), (ap, .inl (cI, 12, .inl pf)), (xb, .inr (0, [.ref as, .ref ar, .ref am, .int (nI bn)])), (as, .inl (cI, 10, .inl bs)), (ar, .inl (cI, 10, .inl br)), (am, .inl (cI, 1024, .inl mt)), (xm, .inr (1, [.ref al, .ref ak])), (al, .inl (cI, 16, .inl lv)), (ak, .inl (cI, 16, .inl ks))]) hD hS hA [0, 1, 2, 3, 4, 5, 6, 7, 8, 9] rfl
          refine bv_cMi (pc := 315) (E' := (bv_open (bv_loaded bs br bn lv))) (va_runV (As := []) (rest := []) ⟨hx, hb, hml, hown, hts⟩ (m_X3_load l G cI H.size x xp ap 1 xb as ar am bn xm al ak pf bs br mt lv ks (by decide) (by omega) hB.2.2.2) (cwV 0 hts gL_law_X3_load rfl rfl rfl (by decide +kernel) ⟨Nat.le_of_ble_eq_true rfl, Nat.le_of_ble_eq_true rfl⟩) (bv_pV hE ⟨rfl, hPc, hDc.weaken (fun _ _ _ _ => trivial)⟩ (va_recv hK hP (ci := 3) (q0 := 0) rfl rfl)) rfl rfl hl.1 rfl (lv_room (Nat.le_of_ble_eq_true rfl)) dL_law_315 ⟨Nat.le_of_ble_eq_true rfl, Nat.le_of_ble_eq_true rfl⟩) hS (fun q _ h => hFc q h) hFc rfl (fun t8 H1 locs ht8 hvm8 hB8 hz1 hk1 hS => ?_)
          have hP1 : va_P G vwCl [(x, .inr (3, [.ref xp, .ref xb, .ref xm])), (xp, .inr (2, [.ref ap, .int (nI 1)])), (ap, .inl (cI, 12, .inl pf)), (xb, .inr (0, [.ref as, .ref ar, .ref am, .int (nI bn)])), (as, .inl (cI, 10, .inl bs)), (ar, .inl (cI, 10, .inl br)), (am, .inl (cI, 1024, .inl mt)), (xm, .inr (1, [.ref al, .ref ak])), (al, .inl (cI, 16, .inl (bv_loaded bs br bn lv))), (ak, .inl (cI, 16, .inl ks))] H1 := by rw [← ht8]; exact hB8
          obtain ⟨hP, hD⟩ := va_join (wr := []) (w1 := [(x, .inr (3, [.ref xp, .ref xb, .ref xm])), (xp, .inr (2, [.ref ap, .int (nI 1)])), (ap, .inl (cI, 12, .inl pf)), (xb, .inr (0, [.ref as, .ref ar, .ref am, .int (nI bn)])), (as, .inl (cI, 10, .inl bs)), (ar, .inl (cI, 10, .inl br)), (am, .inl (cI, 1024, .inl mt)), (xm, .inr (1, [.ref al, .ref ak])), (al, .inl (cI, 16, .inl (bv_loaded bs br bn lv))), (ak, .inl (cI, 16, .inl ks))]) hP hD [0, 1, 2, 3, 4, 5, 6, 7, 8, 9] [] rfl rfl (by decide) (by decide) hk1 hFc hP1 (bv_Dm (w0 := [(x, .inr (3, [.ref xp, .ref xb, .ref xm])), (xp, .inr (2, [.ref ap, .int (nI 1)])), (ap, .inl (cI, 12, .inl pf)), (xb, .inr (0, [.ref as, .ref ar, .ref am, .int (nI bn)])), (as, .inl (cI, 10, .inl bs)), (ar, .inl (cI, 10, .inl br)), (am, .inl (cI, 1024, .inl mt)), (xm, .inr (1, [.ref al, .ref ak])), (al, .inl (cI, 16, .inl lv)), (ak, .inl (cI, 16, .inl ks))]) [x, xp, ap, xb, as, ar, am, xm, al, ak] rfl rfl hDc.self)
          have hP : va_P G vwCl [(x, .inr (3, [.ref xp, .ref xb, .ref xm])), (xp, .inr (2, [.ref ap, .int (nI 1)])), (ap, .inl (cI, 12, .inl pf)), (xb, .inr (0, [.ref as, .ref ar, .ref am, .int (nI bn)])), (as, .inl (cI, 10, .inl bs)), (ar, .inl (cI, 10, .inl br)), (am, .inl (cI, 1024, .inl mt)), (xm, .inr (1, [.ref al, .ref ak])), (al, .inl (cI, 16, .inl (bv_loaded bs br bn lv))), (ak, .inl (cI, 16, .inl ks))] H1 := hP.sub (ws' := [(x, .inr (3, [.ref xp, .ref xb, .ref xm])), (xp, .inr (2, [.ref ap, .int (nI 1)])), (ap, .inl (cI, 12, .inl pf)), (xb, .inr (0, [.ref as, .ref ar, .ref am, .int (nI bn)])), (as, .inl (cI, 10, .inl bs)), (ar, .inl (cI, 10, .inl br)), (am, .inl (cI, 1024, .inl mt)), (xm, .inr (1, [.ref al, .ref ak])), (al, .inl (cI, 16, .inl (bv_loaded bs br bn lv))), (ak, .inl (cI, 16, .inl ks))]) [0, 1, 2, 3, 4, 5, 6, 7, 8, 9] rfl
          have hD : va_D A [(x, .inr (3, [.ref xp, .ref xb, .ref xm])), (xp, .inr (2, [.ref ap, .int (nI 1)])), (ap, .inl (cI, 12, .inl pf)), (xb, .inr (0, [.ref as, .ref ar, .ref am, .int (nI bn)])), (as, .inl (cI, 10, .inl bs)), (ar, .inl (cI, 10, .inl br)), (am, .inl (cI, 1024, .inl mt)), (xm, .inr (1, [.ref al, .ref ak])), (al, .inl (cI, 16, .inl (bv_loaded bs br bn lv))), (ak, .inl (cI, 16, .inl ks))] := hD.sub (ws' := [(x, .inr (3, [.ref xp, .ref xb, .ref xm])), (xp, .inr (2, [.ref ap, .int (nI 1)])), (ap, .inl (cI, 12, .inl pf)), (xb, .inr (0, [.ref as, .ref ar, .ref am, .int (nI bn)])), (as, .inl (cI, 10, .inl bs)), (ar, .inl (cI, 10, .inl br)), (am, .inl (cI, 1024, .inl mt)), (xm, .inr (1, [.ref al, .ref ak])), (al, .inl (cI, 16, .inl (bv_loaded bs br bn lv))), (ak, .inl (cI, 16, .inl ks))]) [0, 1, 2, 3, 4, 5, 6, 7, 8, 9] (by decide) rfl
          generalize H1 = H at hP hS ⊢
          refine lv_pop (pc := 318) hx hb dL_law_318 rfl ?_
          refine lv_iconst (pc := 319) (v := 0) hx hb dL_law_319 (by decide) ?_
          refine lv_istore (pc := 320) (lv' := [(10, .int 0), (5, .int g), (4, .int (nI (2 ^ bn - 1))), (1, .ref x), (0, .ref b)]) hx hb dL_law_320 hl (by decide) rfl (fun ls hl => ?_)
          exact kk _ _ _ hP hD hS (lv_sub hl [0, 1, 3, 4] rfl)
        · exact absurd bv_T7c c309_23
