theorem bv_gt3 {L i : Nat} (hL : L ≤ 1536) (hi : i < 5000) : nI L - 3 < nI i ↔ L < i + 3 := by
  rw [Int32.lt_iff_toInt_lt, show (3 : Int32) = nI 3 from rfl, pk_sub_toInt (by omega) (by decide), nI_toInt (by omega)]
  omega
set_option maxHeartbeats 4000000 in
set_option maxRecDepth 100000 in
theorem bv_loop {l : Launch} {p : Program} {e : Env} {s : State} {m : MethodId} {below : List Frame} {meth : Method} {c : Code} {Q : State → Prop} {b L : Nat} {xs : Nat → Int32} {G : va_G} {cI cJ cD : ClassId} {A : Nat → Prop} (hC : bv_LC l p s m c b L xs G cI cJ cD A) (hL5 : L ≤ 1536) {x xp ap xb as ar am xm al ak y yp yb yr yl o od : Nat} (hend : ∀ (H : Heap) (locs : List Loc) (ls : Array Slot), va_S A s.heap H locs → ls.size = 9 → W p l e room_1 s m #[Value.ref b] below meth c H locs 601024 7293033 Q (F0 m 1789 ls [])) : ∀ (fu cn : Nat), 513 - cn < fu → 3 * cn ≤ L → ∀ (th : Int32) (pn bn : Nat) (pf bs br mt lv ks : Nat → Int32) (fo : Nat → Int64) (fd : Nat → UInt64) (H : Heap) (locs : List Loc) (ls : Array Slot), bv_Inv cn pn pf bn bs br mt lv → va_P G vwCl (bv_LW G cI cJ cD x xp ap xb as ar am xm al ak y yp yb yr yl o od th pn bn pf bs br mt lv ks fo fd) H → va_D A (bv_LW G cI cJ cD x xp ap xb as ar am xm al ak y yp yb yr yl o od th pn bn pf bs br mt lv ks fo fd) → va_S A s.heap H locs → lv_has ls 9 [(5, .int (nI (3 * cn))), (4, .ref od), (3, .ref o), (2, .ref y), (1, .ref x), (0, .ref b)] → W p l e room_1 s m #[Value.ref b] below meth c H locs (100 + 10 * cn) (2000 + 100 * cn) Q (F0 m 28 ls []) := by
  intro fu
  induction fu with
  | zero => intro cn hfu; exact absurd hfu (Nat.not_lt_zero _)
  | succ fu ih =>
    intro cn hfu hle th pn bn pf bs br mt lv ks fo fd H locs ls hI hP hD hS hl
    have hC9 := hC
    obtain ⟨hst, hx, hb, hml, hown, hts, hX9, hbl, hbA, hA, hXA, hE, hL⟩ := hC9
    refine lv_iload (pc := 28) hx hb dL_law_28 (lv_at hl 0 rfl) ?_
    refine lv_aload_n (pc := 30) hx hb dL_law_30 rfl (lv_at hl 5 rfl) ?_
    refine va_slen (pc := 31) hx hb hX9 hbl hbA hS dL_law_31 ?_
    refine lv_iconst (pc := 32) (v := 3) hx hb dL_law_32 (by decide) ?_
    refine lv_isub (pc := 33) hx hb dL_law_33 ?_
    refine lv_icmp_gt (pc := 34) (tgt := 1789) hx hb dL_law_34 (by decide) (fun c34 => ?_) (fun c34 => ?_)
    · refine W.widen (k := 601024) (n := 7293033) (by omega) (by omega) ?_
      exact hend H locs ls hS hl.1
    · have h34 : ¬ nI L - 3 < nI (3 * cn) := c34
      have hi : 3 * cn + 2 < L := by
        by_cases q : L < 3 * cn + 3
        · exact absurd ((bv_gt3 hL5 (by omega)).mpr q) h34
        · omega
      refine lv_aload_n (pc := 37) hx hb dL_law_37 rfl (lv_at hl 5 rfl) ?_
      refine lv_iload (pc := 38) hx hb dL_law_38 (lv_at hl 0 rfl) ?_
      refine va_sld (pc := 40) hx hb hX9 hbl hbA hS (vp_in_nI (show 3 * cn < L from by omega) (by omega)) dL_law_40 ?_
      refine lv_bipush (pc := 41) (v := 63) hx hb dL_law_41 (by decide) ?_
      refine lv_iand (pc := 43) hx hb dL_law_43 ?_
      obtain ⟨j, hj, ej⟩ := pk_andE (xs (nI (3 * cn)).toNatClampNeg) (m := 63) 6 (by decide)
      have hj : j < 64 := hj
      have ej : (xs (nI (3 * cn)).toNatClampNeg &&& (63 : Int32)) = nI j := ej
      rw [ej]
      have kk : bv_KK l p e s m below meth c Q b A G cI cJ cD x xp ap xb as ar am xm al ak y yp yb yr yl o od cn := by
        intro th pn bn pf bs br mt lv ks fo fd H locs ls hI hP hD hS hl
        refine lv_iinc (pc := 1783) (v := nI (3 * (cn + 1))) (lv' := [(5, .int (nI (3 * (cn + 1)))), (4, .ref od), (3, .ref o), (2, .ref y), (1, .ref x), (0, .ref b)]) hx hb dL_law_1783 hl (k := 0) rfl (by rw [show 3 * (cn + 1) = 3 * cn + 3 from by omega]; exact nI_add (3 * cn) 3) (by decide) rfl (fun ls hl => ?_)
        refine lv_goto (pc := 1786) (tgt := 28) hx hb dL_law_1786 (by decide) ?_
        exact ih (cn + 1) (by omega) (by omega) th pn bn pf bs br mt lv ks fo fd H locs ls hI hP hD hS hl
      rcases (show j = 0 ∨ j = 1 ∨ j = 2 ∨ j = 3 ∨ j = 4 ∨ j = 5 ∨ j = 6 ∨ j = 7 ∨ j = 8 ∨ j = 9 ∨ j = 10 ∨ j = 11 ∨ j = 12 ∨ j = 13 ∨ j = 14 ∨ j = 15 ∨ j = 16 ∨ j = 17 ∨ j = 18 ∨ j = 19 ∨ j = 20 ∨ j = 21 ∨ j = 22 ∨ j = 23 ∨ j = 24 ∨ j = 25 ∨ j = 26 ∨ j = 27 ∨ j = 28 ∨ j = 29 ∨ j = 30 ∨ j = 31 ∨ j = 32 ∨ j = 33 ∨ j = 34 ∨ 35 ≤ j by omega) with rfl | rfl | rfl | rfl | rfl | rfl | rfl | rfl | rfl | rfl | rfl | rfl | rfl | rfl | rfl | rfl | rfl | rfl | rfl | rfl | rfl | rfl | rfl | rfl | rfl | rfl | rfl | rfl | rfl | rfl | rfl | rfl | rfl | rfl | rfl | hj35
      · refine lv_tableIn (pc := 44) (off := 156) (tgt := 200) hx hb dL_law_44 (by decide) (by decide) rfl (by decide) ?_
        exact bv_case0 hC (by omega) hi hL5 hI hP hD hS hl kk
      · refine lv_tableIn (pc := 44) (off := 212) (tgt := 256) hx hb dL_law_44 (by decide) (by decide) rfl (by decide) ?_
        exact bv_case1 hC (by omega) hi hL5 hI hP hD hS hl kk
      · refine lv_tableIn (pc := 44) (off := 284) (tgt := 328) hx hb dL_law_44 (by decide) (by decide) rfl (by decide) ?_
        exact bv_case2 hC (by omega) hi hL5 hI hP hD hS hl kk
      · refine lv_tableIn (pc := 44) (off := 340) (tgt := 384) hx hb dL_law_44 (by decide) (by decide) rfl (by decide) ?_
        exact bv_case3 hC (by omega) hi hL5 hI hP hD hS hl kk
      · refine lv_tableIn (pc := 44) (off := 384) (tgt := 428) hx hb dL_law_44 (by decide) (by decide) rfl (by decide) ?_
        exact bv_case4 hC (by omega) hi hL5 hI hP hD hS hl kk
      · refine lv_tableIn (pc := 44) (off := 440) (tgt := 484) hx hb dL_law_44 (by decide) (by decide) rfl (by decide) ?_
        exact bv_case5 hC (by omega) hi hL5 hI hP hD hS hl kk
      · refine lv_tableIn (pc := 44) (off := 484) (tgt := 528) hx hb dL_law_44 (by decide) (by decide) rfl (by decide) ?_
        exact bv_case6 hC (by omega) hi hL5 hI hP hD hS hl kk
      · refine lv_tableIn (pc := 44) (off := 497) (tgt := 541) hx hb dL_law_44 (by decide) (by decide) rfl (by decide) ?_
        exact bv_case7 hC (by omega) hi hL5 hI hP hD hS hl kk
      · refine lv_tableIn (pc := 44) (off := 541) (tgt := 585) hx hb dL_law_44 (by decide) (by decide) rfl (by decide) ?_
        exact bv_case8 hC (by omega) hi hL5 hI hP hD hS hl kk
      · refine lv_tableIn (pc := 44) (off := 597) (tgt := 641) hx hb dL_law_44 (by decide) (by decide) rfl (by decide) ?_
        exact bv_case9 hC (by omega) hi hL5 hI hP hD hS hl kk
      · refine lv_tableIn (pc := 44) (off := 665) (tgt := 709) hx hb dL_law_44 (by decide) (by decide) rfl (by decide) ?_
        exact bv_case10 hC (by omega) hi hL5 hI hP hD hS hl kk
      · refine lv_tableIn (pc := 44) (off := 709) (tgt := 753) hx hb dL_law_44 (by decide) (by decide) rfl (by decide) ?_
        exact bv_case11 hC (by omega) hi hL5 hI hP hD hS hl kk
      · refine lv_tableIn (pc := 44) (off := 765) (tgt := 809) hx hb dL_law_44 (by decide) (by decide) rfl (by decide) ?_
        exact bv_case12 hC (by omega) hi hL5 hI hP hD hS hl kk
      · refine lv_tableIn (pc := 44) (off := 778) (tgt := 822) hx hb dL_law_44 (by decide) (by decide) rfl (by decide) ?_
        exact bv_case13 hC (by omega) hi hL5 hI hP hD hS hl kk
      · refine lv_tableIn (pc := 44) (off := 862) (tgt := 906) hx hb dL_law_44 (by decide) (by decide) rfl (by decide) ?_
        exact bv_case14 hC (by omega) hi hL5 hI hP hD hS hl kk
      · refine lv_tableIn (pc := 44) (off := 918) (tgt := 962) hx hb dL_law_44 (by decide) (by decide) rfl (by decide) ?_
        exact bv_case15 hC (by omega) hi hL5 hI hP hD hS hl kk
      · refine lv_tableIn (pc := 44) (off := 981) (tgt := 1025) hx hb dL_law_44 (by decide) (by decide) rfl (by decide) ?_
        exact bv_case16 hC (by omega) hi hL5 hI hP hD hS hl kk
      · refine lv_tableIn (pc := 44) (off := 1025) (tgt := 1069) hx hb dL_law_44 (by decide) (by decide) rfl (by decide) ?_
        exact bv_case17 hC (by omega) hi hL5 hI hP hD hS hl kk
      · refine lv_tableIn (pc := 44) (off := 1081) (tgt := 1125) hx hb dL_law_44 (by decide) (by decide) rfl (by decide) ?_
        exact bv_case18 hC (by omega) hi hL5 hI hP hD hS hl kk
      · refine lv_tableIn (pc := 44) (off := 1125) (tgt := 1169) hx hb dL_law_44 (by decide) (by decide) rfl (by decide) ?_
        exact bv_case19 hC (by omega) hi hL5 hI hP hD hS hl kk
      · refine lv_tableIn (pc := 44) (off := 1181) (tgt := 1225) hx hb dL_law_44 (by decide) (by decide) rfl (by decide) ?_
        exact bv_case20 hC (by omega) hi hL5 hI hP hD hS hl kk
      · refine lv_tableIn (pc := 44) (off := 1225) (tgt := 1269) hx hb dL_law_44 (by decide) (by decide) rfl (by decide) ?_
        exact bv_case21 hC (by omega) hi hL5 hI hP hD hS hl kk
      · refine lv_tableIn (pc := 44) (off := 1269) (tgt := 1313) hx hb dL_law_44 (by decide) (by decide) rfl (by decide) ?_
        exact bv_case22 hC (by omega) hi hL5 hI hP hD hS hl kk
      · refine lv_tableIn (pc := 44) (off := 1313) (tgt := 1357) hx hb dL_law_44 (by decide) (by decide) rfl (by decide) ?_
        exact bv_case23 hC (by omega) hi hL5 hI hP hD hS hl kk
      · refine lv_tableIn (pc := 44) (off := 1364) (tgt := 1408) hx hb dL_law_44 (by decide) (by decide) rfl (by decide) ?_
        exact bv_case24 hC (by omega) hi hL5 hI hP hD hS hl kk
      · refine lv_tableIn (pc := 44) (off := 1377) (tgt := 1421) hx hb dL_law_44 (by decide) (by decide) rfl (by decide) ?_
        exact bv_case25 hC (by omega) hi hL5 hI hP hD hS hl kk
      · refine lv_tableIn (pc := 44) (off := 1390) (tgt := 1434) hx hb dL_law_44 (by decide) (by decide) rfl (by decide) ?_
        exact bv_case26 hC (by omega) hi hL5 hI hP hD hS hl kk
      · refine lv_tableIn (pc := 44) (off := 1403) (tgt := 1447) hx hb dL_law_44 (by decide) (by decide) rfl (by decide) ?_
        exact bv_case27 hC (by omega) hi hL5 hI hP hD hS hl kk
      · refine lv_tableIn (pc := 44) (off := 1459) (tgt := 1503) hx hb dL_law_44 (by decide) (by decide) rfl (by decide) ?_
        exact bv_case28 hC (by omega) hi hL5 hI hP hD hS hl kk
      · refine lv_tableIn (pc := 44) (off := 1472) (tgt := 1516) hx hb dL_law_44 (by decide) (by decide) rfl (by decide) ?_
        exact bv_case29 hC (by omega) hi hL5 hI hP hD hS hl kk
      · refine lv_tableIn (pc := 44) (off := 1540) (tgt := 1584) hx hb dL_law_44 (by decide) (by decide) rfl (by decide) ?_
        exact bv_case30 hC (by omega) hi hL5 hI hP hD hS hl kk
      · refine lv_tableIn (pc := 44) (off := 1584) (tgt := 1628) hx hb dL_law_44 (by decide) (by decide) rfl (by decide) ?_
        exact bv_case31 hC (by omega) hi hL5 hI hP hD hS hl kk
      · refine lv_tableIn (pc := 44) (off := 1635) (tgt := 1679) hx hb dL_law_44 (by decide) (by decide) rfl (by decide) ?_
        exact bv_case32 hC (by omega) hi hL5 hI hP hD hS hl kk
      · refine lv_tableIn (pc := 44) (off := 1648) (tgt := 1692) hx hb dL_law_44 (by decide) (by decide) rfl (by decide) ?_
        exact bv_case33 hC (by omega) hi hL5 hI hP hD hS hl kk
      · refine lv_tableIn (pc := 44) (off := 1725) (tgt := 1769) hx hb dL_law_44 (by decide) (by decide) rfl (by decide) ?_
        exact bv_case34 hC (by omega) hi hL5 hI hP hD hS hl kk
      · refine lv_tableOut (pc := 44) (tgt := 1783) hx hb dL_law_44 (Or.inr (by rw [nI_toInt (by omega)]; omega)) (by decide) ?_
        refine W.widen (k := 100 + 10 * (cn + 1)) (n := 2000 + 100 * (cn + 1)) (by omega) (by omega) ?_
        exact kk th pn bn pf bs br mt lv ks fo fd _ _ _ hI.next hP hD hS hl

