/-! The share: a quotient of two counts of bits. -/
theorem bv_allN {f : Nat → Bool} : ∀ n, Nat.all n (fun j _ => f j) = true → ∀ j, j < n → f j = true
  | 0, _, j, h => absurd h (Nat.not_lt_zero _)
  | n + 1, H, j, h => by
    have H' : (Nat.all n (fun j _ => f j) && f n) = true := H
    rw [Bool.and_eq_true] at H'
    rcases Nat.lt_or_ge j n with q | q
    · exact bv_allN n H'.1 j q
    · rw [show j = n by omega]; exact H'.2
theorem bv_popN_lt (n : Nat) : bv_popN n < 64 := by
  unfold bv_popN
  exact Nat.lt_of_le_of_lt Nat.and_le_right (by decide)
theorem bv_popnz_all {a : Nat} (h : a < 256) : bv_popnz a = true := by
  have e : a / 16 * 16 + a % 16 = a := by omega
  have hr : a % 16 < 16 := Nat.mod_lt _ (by decide)
  have hq : a / 16 = 0 ∨ a / 16 = 1 ∨ a / 16 = 2 ∨ a / 16 = 3 ∨ a / 16 = 4 ∨ a / 16 = 5 ∨ a / 16 = 6 ∨ a / 16 = 7 ∨ a / 16 = 8 ∨ a / 16 = 9 ∨ a / 16 = 10 ∨ a / 16 = 11 ∨ a / 16 = 12 ∨ a / 16 = 13 ∨ a / 16 = 14 ∨ a / 16 = 15 := by omega
  rcases hq with q | q | q | q | q | q | q | q | q | q | q | q | q | q | q | q
  · rw [show a = 0 + a % 16 by omega]; exact bv_allN 16 bv_pz0 (a % 16) hr
  · rw [show a = 16 + a % 16 by omega]; exact bv_allN 16 bv_pz1 (a % 16) hr
  · rw [show a = 32 + a % 16 by omega]; exact bv_allN 16 bv_pz2 (a % 16) hr
  · rw [show a = 48 + a % 16 by omega]; exact bv_allN 16 bv_pz3 (a % 16) hr
  · rw [show a = 64 + a % 16 by omega]; exact bv_allN 16 bv_pz4 (a % 16) hr
  · rw [show a = 80 + a % 16 by omega]; exact bv_allN 16 bv_pz5 (a % 16) hr
  · rw [show a = 96 + a % 16 by omega]; exact bv_allN 16 bv_pz6 (a % 16) hr
  · rw [show a = 112 + a % 16 by omega]; exact bv_allN 16 bv_pz7 (a % 16) hr
  · rw [show a = 128 + a % 16 by omega]; exact bv_allN 16 bv_pz8 (a % 16) hr
  · rw [show a = 144 + a % 16 by omega]; exact bv_allN 16 bv_pz9 (a % 16) hr
  · rw [show a = 160 + a % 16 by omega]; exact bv_allN 16 bv_pz10 (a % 16) hr
  · rw [show a = 176 + a % 16 by omega]; exact bv_allN 16 bv_pz11 (a % 16) hr
  · rw [show a = 192 + a % 16 by omega]; exact bv_allN 16 bv_pz12 (a % 16) hr
  · rw [show a = 208 + a % 16 by omega]; exact bv_allN 16 bv_pz13 (a % 16) hr
  · rw [show a = 224 + a % 16 by omega]; exact bv_allN 16 bv_pz14 (a % 16) hr
  · rw [show a = 240 + a % 16 by omega]; exact bv_allN 16 bv_pz15 (a % 16) hr
theorem bv_popN_nz {n : Nat} (h : n < 65536) (h0 : ¬ n = 0) : ¬ bv_popN n = 0 := by
  have h1 : bv_popnz (n / 256) = true := bv_popnz_all (by omega)
  unfold bv_popnz at h1
  have h2 := bv_allN 256 h1 (n % 256) (Nat.mod_lt _ (by decide))
  rw [show 256 * (n / 256) + n % 256 = n by omega] at h2
  intro q
  rw [q] at h2
  have h3 : Nat.beq n 0 = false := by
    cases hb : Nat.beq n 0 with
    | false => rfl
    | true => exact absurd (Nat.eq_of_beq_eq_true hb) h0
  rw [h3] at h2
  exact absurd h2 (by decide)
theorem bv_pop_nz {x : Int32} (h : x &&& 65535 = x) (h0 : ¬ x = 0) : ¬ bv_pop x = 0 := by
  obtain ⟨n, hn, rfl⟩ := bv_16 h
  rw [bv_pop_nI hn]
  intro q
  have h1 := bv_popN_lt n
  exact bv_popN_nz hn (fun e => h0 (by rw [e]; rfl)) ((nI_eq (b := 0) (by omega) (by decide)).mp q)
theorem bv_open_nz {lv : Nat → Int32} (h : ∃ w, w < 16 ∧ lv w = 0) : ¬ bv_open lv = 0 := by
  obtain ⟨w, hw, e⟩ := h
  intro q
  have h1 : bv_has (bv_open lv) (nI w) = true := (bv_has_wa 16 (Nat.le_refl _) w hw).mpr ⟨hw, bv_all16 w hw, e⟩
  rw [q, bv_has0 w hw] at h1
  exact absurd h1 (by decide)
theorem bv_pop_open {lv : Nat → Int32} (h : ∃ w, w < 16 ∧ lv w = 0) : ¬ bv_pop (bv_open lv) = 0 := bv_pop_nz (bv_wa16 _ _ _) (bv_open_nz h)
theorem bv_n64 {x : UInt64} (h : Jvm.FP.Core.dIsNaN x = false) : vf_n64 x := by
  unfold vf_n64
  rw [UInt64.le_iff_toNat_le, UInt64.toNat_and]
  have h1 : (0x7fffffffffffffff : UInt64).toNat = 2 ^ 63 - 1 := by decide
  have h2 : (0x7ff0000000000000 : UInt64).toNat = 9218868437227405312 := by decide
  rw [h1, h2, Nat.and_two_pow_sub_one_eq_mod]
  rw [← Bool.not_eq_true, Jvm.FP.Core.isNaN_bits] at h
  omega
theorem bv_dvN (a b : Int32) (hb : ¬ b = 0) : Jvm.FP.Core.dIsNaN (FP.ddiv (FP.i2d a) (FP.i2d b)) = false := by
  refine Jvm.FP.Core.ddiv_out (Jvm.FP.Core.i2d_fin a).notNaN (Jvm.FP.Core.i2d_fin b) (fun q => ?_)
  exact Jvm.FP.Core.i2d_ne_zero hb ((Jvm.FP.Core.zero_bits2 _).mp q)
theorem bv_dvn (a b : Int32) (hb : ¬ b = 0) : vf_n64 (FP.ddiv (FP.i2d a) (FP.i2d b)) := bv_n64 (bv_dvN a b hb)
def bv_shr (lv : Nat → Int32) (i : Int32) : UInt64 := if bv_pop (bv_open lv) = 0 then 0 else FP.ddiv (FP.i2d (bv_pop (bv_open lv &&& bv_at 4 bv_AW i))) (FP.i2d (bv_pop (bv_open lv)))
theorem bv_shr_z {lv : Nat → Int32} {i : Int32} (h : bv_pop (bv_open lv) = 0) : bv_shr lv i = 0 := by unfold bv_shr; rw [if_pos h]
theorem bv_shr_n {lv : Nat → Int32} {i : Int32} (h : ¬ bv_pop (bv_open lv) = 0) : bv_shr lv i = FP.ddiv (FP.i2d (bv_pop (bv_open lv &&& bv_at 4 bv_AW i))) (FP.i2d (bv_pop (bv_open lv))) := by unfold bv_shr; rw [if_neg h]
theorem bv_shr_self (lv : Nat → Int32) (i : Int32) : Op.cmpValue (FP.dcmp (bv_shr lv i) (bv_shr lv i)) .l = 0 := by
  have h : Jvm.FP.Core.dIsNaN (bv_shr lv i) = false := by
    by_cases c : bv_pop (bv_open lv) = 0
    · rw [bv_shr_z c]; decide
    · rw [bv_shr_n c]; exact bv_dvN _ _ c
  rw [show FP.dcmp (bv_shr lv i) (bv_shr lv i) = some .eq from Jvm.FP.Core.dcmp_self ((Jvm.FP.Core.notNaN_iff _).mp h)]
  rfl

set_option maxHeartbeats 4000000 in
set_option maxRecDepth 100000 in
theorem m_X3_share (l : Launch) (hst : l.stackTraces = false) (G : va_G) (cI : ClassId) (H0 : Heap) (x xp ap pn xb as ar am bn xm al ak : Nat) (pf bs br mt lv ks : Nat → Int32) (i : Int32) (hp : pn ≤ 12) (hn : bn ≤ 10) (hM : ∀ t, t < 2 ^ bn → mt t = bv_wi bs t bn) : vx_Met l yX3_share wsX3_share ({ frames := 7, cells := 1, slots := 6, locals := 110 }) (bv_PX [.ref x, .int i] G cI (fun H => H = H0 ∧ va_P G vwCl [(x, .inr (3, [.ref xp, .ref xb, .ref xm])), (xp, .inr (2, [.ref ap, .int (nI pn)])), (ap, .inl (cI, 12, .inl pf)), (xb, .inr (0, [.ref as, .ref ar, .ref am, .int (nI bn)])), (as, .inl (cI, 10, .inl bs)), (ar, .inl (cI, 10, .inl br)), (am, .inl (cI, 1024, .inl mt)), (xm, .inr (1, [.ref al, .ref ak])), (al, .inl (cI, 16, .inl lv)), (ak, .inl (cI, 16, .inl ks))] H)) (va_Qd (fun (r9 : UInt64) (_ : Unit) => r9 = (bv_shr lv i) ∧ ((if ¬ (0 ≤ i ∧ i ≤ 3) then 1 else 0) = 0)) (fun _ (T9 : State) => T9.heap = H0) (fun _ => False)) (vx_X (fun _ : Unit => True) (fun (X9 : String) _ _ => (X9 = "java/lang/IndexOutOfBoundsException" ∧ (if ¬ (0 ≤ i ∧ i ≤ 3) then 1 else 0) = 1)) (fun _ => False)) 1 6 (fun _ => False) := by
  refine vx_ofW (cc := cX3_share) (maxL := 5) (ret := (some .double)) (by decide) rfl ?_
  intro p e s m args below meth c s₁ B hml htab hv
  obtain ⟨rfl, ⟨hH0, hP⟩, hE, hX⟩ := hv
  have hx := B.exec
  have hb := B.bytes
  have hr := B.returns
  have hts := atoms_spec (ws := wsX3_share) B.pre
  have hown : s.vm.findClass RX3 = some m.cls := findClass_of_methodNamed B.named
  have hlocks := B.notSynchronized
  have hK := hE.1
  have hw0 := hts (.fieldLink RX3 26 "BeliefReviser" "mind" "LBeliefReviser$Mind;") (List.mem_of_getElem? (i := 1) rfl)
  have hw1 : ∀ w ∈ u_ws RX3 TX3 3, w ∈ wsX3_share := by decide +kernel
  have hw2 := hts (.static yJ6_bitCount_0f7a4) (List.mem_of_getElem? (i := 23) rfl)
  have hw3 := hts (.fieldLink RX3 37 "BeliefReviser" "ATOM_WORLDS" "[I") (List.mem_of_getElem? (i := 2) rfl)
  subst hH0
  have hP : va_P G vwCl [(x, .inr (3, [.ref xp, .ref xb, .ref xm])), (xp, .inr (2, [.ref ap, .int (nI pn)])), (ap, .inl (cI, 12, .inl pf)), (xb, .inr (0, [.ref as, .ref ar, .ref am, .int (nI bn)])), (as, .inl (cI, 10, .inl bs)), (ar, .inl (cI, 10, .inl br)), (am, .inl (cI, 1024, .inl mt)), (xm, .inr (1, [.ref al, .ref ak])), (al, .inl (cI, 16, .inl lv)), (ak, .inl (cI, 16, .inl ks))] s.heap := hP
  have hl := lv_entry ([.ref x, .int i]) (n := 5) (Nat.le_of_ble_eq_true rfl)
  rw [lg_entry_eq]
  generalize (lg_sl ([.ref x, .int i]) ++ List.replicate (5 - (lg_sl ([.ref x, .int i])).length) Slot.unset).toArray = ls at hl ⊢
  have hl : lv_has ls 5 [(0, .ref x), (1, .int i)] := hl
  refine lv_iload_n (pc := 0) hx hb dX3_share_0 rfl (lv_at hl 1 rfl) ?_
  have hPc := hP.sub (ws' := []) [] rfl
  refine bv_cXv (pc := 1) (vx_runS (As := [.int i]) (rest := []) ⟨hx, hb, hml, hown, hts⟩ (m_X3_requireAtom l hst G cI s.heap i ) (va_cwS 1 hts gX3_share_X3_requireAtom rfl rfl rfl (by decide +kernel) ⟨Nat.le_of_ble_eq_true rfl, Nat.le_of_ble_eq_true rfl⟩) (bv_pSX hE hX ⟨rfl, hPc⟩) rfl rfl hl.1 rfl (lv_room (Nat.le_of_ble_eq_true rfl)) dX3_share_1 ⟨Nat.le_of_ble_eq_true rfl, Nat.le_of_ble_eq_true rfl⟩) htab hlocks (fun X h => ⟨h.1, by rw [if_pos (h.2)]⟩) (by decide) (by decide) (fun hck0 => ?_)
  refine lv_aload_n (pc := 4) hx hb dX3_share_4 rfl (lv_at hl 0 rfl) ?_
  refine va_get (pc := 5) (D := G) (ci := 3) (v := .ref xm) (C := RX3) (T := TX3) (N := 3) hx hb hts hw1 hown hK hP 0 rfl rfl 2 (by decide) hw0 (fun _ h9 => h9) rfl dX3_share_5 ?_
  have hPc := hP.sub (ws' := [(xm, .inr (1, [.ref al, .ref ak])), (al, .inl (cI, 16, .inl lv)), (ak, .inl (cI, 16, .inl ks))]) [7, 8, 9] rfl
  refine bv_cSi (pc := 8) (E' := (bv_open lv)) (va_runV (As := []) (rest := []) ⟨hx, hb, hml, hown, hts⟩ (m_X1_open l G cI xm al ak lv ks ) (cwV 0 hts gX3_share_X1_open rfl rfl rfl (by decide +kernel) ⟨Nat.le_of_ble_eq_true rfl, Nat.le_of_ble_eq_true rfl⟩) (bv_pV hE hPc (va_recv hK hP (ci := 1) (q0 := 7) rfl rfl)) rfl rfl hl.1 rfl (lv_room (Nat.le_of_ble_eq_true rfl)) dX3_share_8 ⟨Nat.le_of_ble_eq_true rfl, Nat.le_of_ble_eq_true rfl⟩) rfl ?_
  refine lv_istore_n (pc := 11) (lv' := [(2, .int (bv_open lv)), (0, .ref x), (1, .int i)]) hx hb dX3_share_11 rfl hl (by decide) rfl (fun ls hl => ?_)
  refine lv_iload_n (pc := 12) hx hb dX3_share_12 rfl (lv_at hl 0 rfl) ?_
  have hPc := hP.sub (ws' := []) [] rfl
  refine bv_cSi (pc := 13) (E' := (bv_pop (bv_open lv))) (va_runS (As := [.int (bv_open lv)]) (rest := []) ⟨hx, hb, hml, hown, hts⟩ (m_J6_bitCount_0f7a4 l G cI (bv_open lv) ) (va_cwS 1 hts gX3_share_J6_bitCount_0f7a4 rfl rfl rfl (by decide +kernel) ⟨Nat.le_of_ble_eq_true rfl, Nat.le_of_ble_eq_true rfl⟩) (bv_pS hE hPc) rfl rfl hl.1 rfl (lv_room (Nat.le_of_ble_eq_true rfl)) dX3_share_13 ⟨Nat.le_of_ble_eq_true rfl, Nat.le_of_ble_eq_true rfl⟩) rfl ?_
  refine lv_istore_n (pc := 16) (lv' := [(3, .int (bv_pop (bv_open lv))), (2, .int (bv_open lv)), (0, .ref x), (1, .int i)]) hx hb dX3_share_16 rfl hl (by decide) rfl (fun ls hl => ?_)
  refine lv_iload_n (pc := 17) hx hb dX3_share_17 rfl (lv_at hl 1 rfl) ?_
  obtain ⟨qA, hZA, hTA⟩ := hX.2.2.2.2
  refine va_gets (A := fun _ => False) hx hb hZA va_S.rf hown hw3 (fun _ h9 => h9) dX3_share_18 ?_
  refine lv_iload_n (pc := 21) hx hb dX3_share_21 rfl (lv_at hl 3 rfl) ?_
  refine bv_cSi (pc := 22) (E' := (bv_at 4 bv_AW i)) (va_runS (As := [.ref qA, .int i]) (rest := [.int (bv_open lv)]) ⟨hx, hb, hml, hown, hts⟩ (m_X3_atT l G cI qA i) (va_cwS 2 hts gX3_share_X3_at rfl rfl rfl (by decide +kernel) ⟨Nat.le_of_ble_eq_true rfl, Nat.le_of_ble_eq_true rfl⟩) (bv_pST hE hTA) rfl rfl hl.1 rfl (lv_room (Nat.le_of_ble_eq_true rfl)) dX3_share_22 ⟨Nat.le_of_ble_eq_true rfl, Nat.le_of_ble_eq_true rfl⟩) rfl ?_
  refine lv_iand (pc := 25) hx hb dX3_share_25 ?_
  have hPc := hP.sub (ws' := []) [] rfl
  refine bv_cSi (pc := 26) (E' := (bv_pop ((bv_open lv) &&& (bv_at 4 bv_AW i)))) (va_runS (As := [.int ((bv_open lv) &&& (bv_at 4 bv_AW i))]) (rest := []) ⟨hx, hb, hml, hown, hts⟩ (m_J6_bitCount_0f7a4 l G cI ((bv_open lv) &&& (bv_at 4 bv_AW i)) ) (va_cwS 1 hts gX3_share_J6_bitCount_0f7a4 rfl rfl rfl (by decide +kernel) ⟨Nat.le_of_ble_eq_true rfl, Nat.le_of_ble_eq_true rfl⟩) (bv_pS hE hPc) rfl rfl hl.1 rfl (lv_room (Nat.le_of_ble_eq_true rfl)) dX3_share_26 ⟨Nat.le_of_ble_eq_true rfl, Nat.le_of_ble_eq_true rfl⟩) rfl ?_
  refine lv_istore (pc := 29) (lv' := [(4, .int (bv_pop ((bv_open lv) &&& (bv_at 4 bv_AW i)))), (3, .int (bv_pop (bv_open lv))), (2, .int (bv_open lv)), (0, .ref x), (1, .int i)]) hx hb dX3_share_29 hl (by decide) rfl (fun ls hl => ?_)
  refine lv_iload_n (pc := 31) hx hb dX3_share_31 rfl (lv_at hl 1 rfl) ?_
  refine lv_if_ne (pc := 32) (tgt := 39) hx hb dX3_share_32 (by decide) (fun c32_7 => ?_) (fun c32_7 => ?_)
  · have h1 := c32_7
    refine lv_iload (pc := 39) hx hb dX3_share_39 (lv_at hl 0 rfl) ?_
    refine lv_i2d (pc := 41) hx hb dX3_share_41 ?_
    refine lv_iload_n (pc := 42) hx hb dX3_share_42 rfl (lv_at hl 1 rfl) ?_
    refine lv_i2d (pc := 43) hx hb dX3_share_43 ?_
    refine lv_ddiv (pc := 44) hx hb dX3_share_44 (bv_dvn _ _ h1) ?_
    refine vx_ret ?_
    refine W.widen (k := 1) (n := 6) (by decide) (by decide) ?_
    exact W.dret (pc := 45) (v := (FP.ddiv (FP.i2d (bv_pop ((bv_open lv) &&& (bv_at 4 bv_AW i)))) (FP.i2d (bv_pop (bv_open lv))))) hx hb hr (fun T8 hT8 hW8 => ⟨⟨(FP.ddiv (FP.i2d (bv_pop ((bv_open lv) &&& (bv_at 4 bv_AW i)))) (FP.i2d (bv_pop (bv_open lv)))), (), rfl, ⟨(bv_shr_n h1).symm, (by rw [if_neg (not_not_intro hck0)])⟩, hT8⟩, (va_S.rf (A := fun _ => False)).F hT8⟩) (fun _ h => nomatch h) dX3_share_45
  · have h1 := c32_7
    refine lv_dconst0 (pc := 35) hx hb dX3_share_35 ?_
    refine lv_goto (pc := 36) (tgt := 45) hx hb dX3_share_36 (by decide) ?_
    refine vx_ret ?_
    refine W.widen (k := 1) (n := 6) (by decide) (by decide) ?_
    exact W.dret (pc := 45) (v := 0) hx hb hr (fun T8 hT8 hW8 => ⟨⟨0, (), rfl, ⟨(bv_shr_z h1).symm, (by rw [if_neg (not_not_intro hck0)])⟩, hT8⟩, (va_S.rf (A := fun _ => False)).F hT8⟩) (fun _ h => nomatch h) dX3_share_45
set_option maxHeartbeats 4000000 in
set_option maxRecDepth 100000 in
theorem m_X4_share (l : Launch) (G : va_G) (cI : ClassId) (sz : Nat) (y yp yb yr yl pn bn : Nat) (th : Int32) (pf bs br lv : Nat → Int32) (i : Int32) (hp : pn ≤ 12) (hn : bn ≤ 10) (hz : ¬ bv_pop (bv_open lv) = 0) : Met l yX4_share wsX4_share ({ frames := 3, cells := 0, slots := 0, locals := 65 }) (bv_P [.ref y, .int i] G cI (fun H => H.size = sz ∧ va_P G vwCl [(y, .inr (4, [.int th, .int (nI pn), .ref yp, .int (nI bn), .ref yb, .ref yr, .ref yl])), (yp, .inl (cI, 12, .inl pf)), (yb, .inl (cI, 10, .inl bs)), (yr, .inl (cI, 10, .inl br)), (yl, .inl (cI, 16, .inl lv))] H ∧ va_D (fun _ => True) [(y, .inr (4, [.int th, .int (nI pn), .ref yp, .int (nI bn), .ref yb, .ref yr, .ref yl])), (yp, .inl (cI, 12, .inl pf)), (yb, .inl (cI, 10, .inl bs)), (yr, .inl (cI, 10, .inl br)), (yl, .inl (cI, 16, .inl lv))])) (va_Qd (fun (r9 : UInt64) (_ : Unit) => r9 = (bv_if (if ¬ (0 ≤ i ∧ i ≤ 3) then 1 else 0) (bv_shr lv i) 0)) (fun (_ : Unit) (T9 : State) => va_P G vwCl [(y, .inr (4, [.int (nI (if ¬ (0 ≤ i ∧ i ≤ 3) then 1 else 0)), .int (nI pn), .ref yp, .int (nI bn), .ref yb, .ref yr, .ref yl])), (yp, .inl (cI, 12, .inl pf)), (yb, .inl (cI, 10, .inl bs)), (yr, .inl (cI, 10, .inl br)), (yl, .inl (cI, 16, .inl lv))] T9.heap) (va_A [(y, .inr (4, [.int th, .int (nI pn), .ref yp, .int (nI bn), .ref yb, .ref yr, .ref yl])), (yp, .inl (cI, 12, .inl pf)), (yb, .inl (cI, 10, .inl bs)), (yr, .inl (cI, 10, .inl br)), (yl, .inl (cI, 16, .inl lv))] sz)) 0 0 (va_A [(y, .inr (4, [.int th, .int (nI pn), .ref yp, .int (nI bn), .ref yb, .ref yr, .ref yl])), (yp, .inl (cI, 12, .inl pf)), (yb, .inl (cI, 10, .inl bs)), (yr, .inl (cI, 10, .inl br)), (yl, .inl (cI, 16, .inl lv))] sz) := by
  refine Met.ofW (cc := cX4_share) (maxL := 2) (ret := (some .double)) (by decide) rfl ?_
  intro p e s m args below meth c s₁ B hml hv
  obtain ⟨rfl, ⟨hsz, hP, hD0⟩, hE⟩ := hv
  have hx := B.exec
  have hb := B.bytes
  have hr := B.returns
  have hts := atoms_spec (ws := wsX4_share) B.pre
  have hown : s.vm.findClass RX4 = some m.cls := findClass_of_methodNamed B.named
  have hlocks := B.notSynchronized
  have hK := hE.1
  have hw0 := hts (.static yX4_isIn) (List.mem_of_getElem? (i := 3) rfl)
  have hw1 := hts (.fieldLink RX4 22 "BeliefReviserModel" "thrown" "I") (List.mem_of_getElem? (i := 1) rfl)
  have hw2 : ∀ w ∈ u_ws RX4 TX4 7, w ∈ wsX4_share := by decide +kernel
  have hw3 := hts (.static yX4_worldsOf) (List.mem_of_getElem? (i := 20) rfl)
  have hw4 := hts (.static yJ6_bitCount_0f7a4) (List.mem_of_getElem? (i := 23) rfl)
  subst hsz
  have hD := hD0.self (sz := s.heap.size)
  generalize hAe : va_A [(y, .inr (4, [.int th, .int (nI pn), .ref yp, .int (nI bn), .ref yb, .ref yr, .ref yl])), (yp, .inl (cI, 12, .inl pf)), (yb, .inl (cI, 10, .inl bs)), (yr, .inl (cI, 10, .inl br)), (yl, .inl (cI, 16, .inl lv))] s.heap.size = A at hD ⊢
  have hA : ∀ q : Nat, s.heap.size ≤ q → A q := fun q h => by rw [← hAe]; exact Or.inr h
  have hS : va_S A s.heap s.heap [] := va_S.rf
  have hP : va_P G vwCl [(y, .inr (4, [.int th, .int (nI pn), .ref yp, .int (nI bn), .ref yb, .ref yr, .ref yl])), (yp, .inl (cI, 12, .inl pf)), (yb, .inl (cI, 10, .inl bs)), (yr, .inl (cI, 10, .inl br)), (yl, .inl (cI, 16, .inl lv))] s.heap := hP
  have hl := lv_entry ([.ref y, .int i]) (n := 2) (Nat.le_of_ble_eq_true rfl)
  rw [lg_entry_eq]
  generalize (lg_sl ([.ref y, .int i]) ++ List.replicate (2 - (lg_sl ([.ref y, .int i])).length) Slot.unset).toArray = ls at hl ⊢
  have hl : lv_has ls 2 [(0, .ref y), (1, .int i)] := hl
  refine lv_aload_n (pc := 0) hx hb dX4_share_0 rfl (lv_at hl 0 rfl) ?_
  refine lv_iload_n (pc := 1) hx hb dX4_share_1 rfl (lv_at hl 1 rfl) ?_
  refine lv_iconst (pc := 2) (v := 0) hx hb dX4_share_2 (by decide) ?_
  refine lv_iconst (pc := 3) (v := 3) hx hb dX4_share_3 (by decide) ?_
  have hPc := hP.sub (ws' := []) [] rfl
  refine bv_cSi (pc := 4) (E' := (bv_b (decide (0 ≤ i ∧ i ≤ 3)))) (va_runS (As := [.int i, .int 0, .int 3]) (rest := [.ref y]) ⟨hx, hb, hml, hown, hts⟩ (m_X4_isIn l G cI i 0 3 ) (va_cwS 3 hts gX4_share_X4_isIn rfl rfl rfl (by decide +kernel) ⟨Nat.le_of_ble_eq_true rfl, Nat.le_of_ble_eq_true rfl⟩) (bv_pS hE hPc) rfl rfl hl.1 rfl (lv_room (Nat.le_of_ble_eq_true rfl)) dX4_share_4 ⟨Nat.le_of_ble_eq_true rfl, Nat.le_of_ble_eq_true rfl⟩) rfl ?_
  refine lv_if_eq (pc := 7) (tgt := 14) hx hb dX4_share_7 (by decide) (fun c7_3 => ?_) (fun c7_3 => ?_)
  · have hbad := of_decide_eq_false (bv_b0.mp c7_3)
    refine lv_iconst (pc := 14) (v := 1) hx hb dX4_share_14 (by decide) ?_
    refine va_put (pc := 15) (D := G) (ci := 4) (v := .int 1) (ty := .int) (C := RX4) (T := TX4) (N := 7) hx hb hts hw2 tyX4 tyX4_ok nmX4 hown hK hP hD hS 0 rfl rfl 0 (by decide) hw1 (fun _ h9 => h9) rfl (by decide +kernel) rfl rfl (Nat.le_of_ble_eq_true rfl) dX4_share_15 (fun H locs hP hD hS => ?_)
    have hP : va_P G vwCl [(y, .inr (4, [.int 1, .int (nI pn), .ref yp, .int (nI bn), .ref yb, .ref yr, .ref yl])), (yp, .inl (cI, 12, .inl pf)), (yb, .inl (cI, 10, .inl bs)), (yr, .inl (cI, 10, .inl br)), (yl, .inl (cI, 16, .inl lv))] H := hP
    have hD : va_D A [(y, .inr (4, [.int 1, .int (nI pn), .ref yp, .int (nI bn), .ref yb, .ref yr, .ref yl])), (yp, .inl (cI, 12, .inl pf)), (yb, .inl (cI, 10, .inl bs)), (yr, .inl (cI, 10, .inl br)), (yl, .inl (cI, 16, .inl lv))] := hD
    refine lv_aload_n (pc := 18) hx hb dX4_share_18 rfl (lv_at hl 0 rfl) ?_
    refine va_get (pc := 19) (D := G) (ci := 4) (v := .int 1) (C := RX4) (T := TX4) (N := 7) hx hb hts hw2 hown hK hP 0 rfl rfl 0 (by decide) hw1 (fun _ h9 => h9) rfl dX4_share_19 ?_
    refine lv_if_ne (pc := 22) (tgt := 50) hx hb dX4_share_22 (by decide) (fun c22_4 => ?_) (fun c22_4 => ?_)
    · refine lv_dconst0 (pc := 50) hx hb dX4_share_50 ?_
      have hP9 : va_P G vwCl [(y, .inr (4, [.int (nI (if ¬ (0 ≤ i ∧ i ≤ 3) then 1 else 0)), .int (nI pn), .ref yp, .int (nI bn), .ref yb, .ref yr, .ref yl])), (yp, .inl (cI, 12, .inl pf)), (yb, .inl (cI, 10, .inl bs)), (yr, .inl (cI, 10, .inl br)), (yl, .inl (cI, 16, .inl lv))] H := by rw [if_pos hbad]; exact hP
      exact W.dret (pc := 51) (v := 0) hx hb hr (fun T8 hT8 hW8 => ⟨⟨0, (), rfl, (by rw [if_pos hbad]; rfl), bv_hP hT8 hP9⟩, hS.F hT8⟩) hS.2.2 dX4_share_51
    · exact absurd c22_4 (by decide)
  · have hck0 := of_decide_eq_true (bv_b1.mp c7_3)
    refine lv_iconst (pc := 10) (v := 0) hx hb dX4_share_10 (by decide) ?_
    refine lv_goto (pc := 11) (tgt := 15) hx hb dX4_share_11 (by decide) ?_
    refine va_put (pc := 15) (D := G) (ci := 4) (v := .int 0) (ty := .int) (C := RX4) (T := TX4) (N := 7) hx hb hts hw2 tyX4 tyX4_ok nmX4 hown hK hP hD hS 0 rfl rfl 0 (by decide) hw1 (fun _ h9 => h9) rfl (by decide +kernel) rfl rfl (Nat.le_of_ble_eq_true rfl) dX4_share_15 (fun H locs hP hD hS => ?_)
    have hP : va_P G vwCl [(y, .inr (4, [.int 0, .int (nI pn), .ref yp, .int (nI bn), .ref yb, .ref yr, .ref yl])), (yp, .inl (cI, 12, .inl pf)), (yb, .inl (cI, 10, .inl bs)), (yr, .inl (cI, 10, .inl br)), (yl, .inl (cI, 16, .inl lv))] H := hP
    have hD : va_D A [(y, .inr (4, [.int 0, .int (nI pn), .ref yp, .int (nI bn), .ref yb, .ref yr, .ref yl])), (yp, .inl (cI, 12, .inl pf)), (yb, .inl (cI, 10, .inl bs)), (yr, .inl (cI, 10, .inl br)), (yl, .inl (cI, 16, .inl lv))] := hD
    refine lv_aload_n (pc := 18) hx hb dX4_share_18 rfl (lv_at hl 0 rfl) ?_
    refine va_get (pc := 19) (D := G) (ci := 4) (v := .int 0) (C := RX4) (T := TX4) (N := 7) hx hb hts hw2 hown hK hP 0 rfl rfl 0 (by decide) hw1 (fun _ h9 => h9) rfl dX4_share_19 ?_
    refine lv_if_ne (pc := 22) (tgt := 50) hx hb dX4_share_22 (by decide) (fun c22_5 => ?_) (fun c22_5 => ?_)
    · exact absurd rfl c22_5
    · refine lv_aload_n (pc := 25) hx hb dX4_share_25 rfl (lv_at hl 0 rfl) ?_
      have hPc := hP.sub (ws' := [(y, .inr (4, [.int 0, .int (nI pn), .ref yp, .int (nI bn), .ref yb, .ref yr, .ref yl])), (yl, .inl (cI, 16, .inl lv))]) [0, 4] rfl
      refine bv_cSi (pc := 26) (E' := (bv_open lv)) (va_runV (As := []) (rest := []) ⟨hx, hb, hml, hown, hts⟩ (m_X4_possibleNow l G cI y yp yb yr yl 0 (nI pn) (nI bn) lv ) (cwV 0 hts gX4_share_X4_possibleNow rfl rfl rfl (by decide +kernel) ⟨Nat.le_of_ble_eq_true rfl, Nat.le_of_ble_eq_true rfl⟩) (bv_pV hE hPc (va_recv hK hP (ci := 4) (q0 := 0) rfl rfl)) rfl rfl hl.1 rfl (lv_room (Nat.le_of_ble_eq_true rfl)) dX4_share_26 ⟨Nat.le_of_ble_eq_true rfl, Nat.le_of_ble_eq_true rfl⟩) rfl ?_
      refine lv_iload_n (pc := 29) hx hb dX4_share_29 rfl (lv_at hl 1 rfl) ?_
      have hPc := hP.sub (ws' := []) [] rfl
      refine bv_cSi (pc := 30) (E' := (bv_at 4 bv_AW i)) (va_runS (As := [.int i]) (rest := [.int (bv_open lv)]) ⟨hx, hb, hml, hown, hts⟩ (m_X4_worldsOf l G cI i hck0) (va_cwS 1 hts gX4_share_X4_worldsOf rfl rfl rfl (by decide +kernel) ⟨Nat.le_of_ble_eq_true rfl, Nat.le_of_ble_eq_true rfl⟩) (bv_pS hE hPc) rfl rfl hl.1 rfl (lv_room (Nat.le_of_ble_eq_true rfl)) dX4_share_30 ⟨Nat.le_of_ble_eq_true rfl, Nat.le_of_ble_eq_true rfl⟩) rfl ?_
      refine lv_iand (pc := 33) hx hb dX4_share_33 ?_
      have hPc := hP.sub (ws' := []) [] rfl
      refine bv_cSi (pc := 34) (E' := (bv_pop ((bv_open lv) &&& (bv_at 4 bv_AW i)))) (va_runS (As := [.int ((bv_open lv) &&& (bv_at 4 bv_AW i))]) (rest := []) ⟨hx, hb, hml, hown, hts⟩ (m_J6_bitCount_0f7a4 l G cI ((bv_open lv) &&& (bv_at 4 bv_AW i)) ) (va_cwS 1 hts gX4_share_J6_bitCount_0f7a4 rfl rfl rfl (by decide +kernel) ⟨Nat.le_of_ble_eq_true rfl, Nat.le_of_ble_eq_true rfl⟩) (bv_pS hE hPc) rfl rfl hl.1 rfl (lv_room (Nat.le_of_ble_eq_true rfl)) dX4_share_34 ⟨Nat.le_of_ble_eq_true rfl, Nat.le_of_ble_eq_true rfl⟩) rfl ?_
      refine lv_i2d (pc := 37) hx hb dX4_share_37 ?_
      refine lv_aload_n (pc := 38) hx hb dX4_share_38 rfl (lv_at hl 0 rfl) ?_
      have hPc := hP.sub (ws' := [(y, .inr (4, [.int 0, .int (nI pn), .ref yp, .int (nI bn), .ref yb, .ref yr, .ref yl])), (yl, .inl (cI, 16, .inl lv))]) [0, 4] rfl
      refine bv_cSi (pc := 39) (E' := (bv_open lv)) (va_runV (As := []) (rest := [.double (FP.i2d (bv_pop ((bv_open lv) &&& (bv_at 4 bv_AW i))))]) ⟨hx, hb, hml, hown, hts⟩ (m_X4_possibleNow l G cI y yp yb yr yl 0 (nI pn) (nI bn) lv ) (cwV 0 hts gX4_share_X4_possibleNow rfl rfl rfl (by decide +kernel) ⟨Nat.le_of_ble_eq_true rfl, Nat.le_of_ble_eq_true rfl⟩) (bv_pV hE hPc (va_recv hK hP (ci := 4) (q0 := 0) rfl rfl)) rfl rfl hl.1 rfl (lv_room (Nat.le_of_ble_eq_true rfl)) dX4_share_39 ⟨Nat.le_of_ble_eq_true rfl, Nat.le_of_ble_eq_true rfl⟩) rfl ?_
      have hPc := hP.sub (ws' := []) [] rfl
      refine bv_cSi (pc := 42) (E' := (bv_pop (bv_open lv))) (va_runS (As := [.int (bv_open lv)]) (rest := [.double (FP.i2d (bv_pop ((bv_open lv) &&& (bv_at 4 bv_AW i))))]) ⟨hx, hb, hml, hown, hts⟩ (m_J6_bitCount_0f7a4 l G cI (bv_open lv) ) (va_cwS 1 hts gX4_share_J6_bitCount_0f7a4 rfl rfl rfl (by decide +kernel) ⟨Nat.le_of_ble_eq_true rfl, Nat.le_of_ble_eq_true rfl⟩) (bv_pS hE hPc) rfl rfl hl.1 rfl (lv_room (Nat.le_of_ble_eq_true rfl)) dX4_share_42 ⟨Nat.le_of_ble_eq_true rfl, Nat.le_of_ble_eq_true rfl⟩) rfl ?_
      refine lv_i2d (pc := 45) hx hb dX4_share_45 ?_
      refine lv_ddiv (pc := 46) hx hb dX4_share_46 (bv_dvn _ _ hz) ?_
      refine lv_goto (pc := 47) (tgt := 51) hx hb dX4_share_47 (by decide) ?_
      have hP9 : va_P G vwCl [(y, .inr (4, [.int (nI (if ¬ (0 ≤ i ∧ i ≤ 3) then 1 else 0)), .int (nI pn), .ref yp, .int (nI bn), .ref yb, .ref yr, .ref yl])), (yp, .inl (cI, 12, .inl pf)), (yb, .inl (cI, 10, .inl bs)), (yr, .inl (cI, 10, .inl br)), (yl, .inl (cI, 16, .inl lv))] H := by rw [if_neg (not_not_intro hck0)]; exact hP
      exact W.dret (pc := 51) (v := (FP.ddiv (FP.i2d (bv_pop ((bv_open lv) &&& (bv_at 4 bv_AW i)))) (FP.i2d (bv_pop (bv_open lv))))) hx hb hr (fun T8 hT8 hW8 => ⟨⟨(FP.ddiv (FP.i2d (bv_pop ((bv_open lv) &&& (bv_at 4 bv_AW i)))) (FP.i2d (bv_pop (bv_open lv)))), (), rfl, (by rw [if_neg (not_not_intro hck0)]; exact (bv_shr_n hz).symm), bv_hP hT8 hP9⟩, hS.F hT8⟩) hS.2.2 dX4_share_51
