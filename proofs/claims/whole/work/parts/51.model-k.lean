/-! Taking out the least worlds: one step, for every use of it. -/
theorem bv_hl6 {lv : Nat → Int32} (h : ∀ w, w < 16 → ∃ n, n ≤ 1000000 ∧ lv w = nI n) : ∀ w, w < 16 → 0 ≤ lv w ∧ lv w < 2147483647 := by
  intro w hw
  obtain ⟨n, hn, e⟩ := h w hw
  rw [e]
  exact ⟨nI_pos' (by omega), nI_lt (show n < 2147483647 by omega) (by decide)⟩
theorem bv_gl_spec {lv : Nat → Int32} (h : ∀ w, w < 16 → ∃ n, n ≤ 1000000 ∧ lv w = nI n) : ∀ k, k ≤ 16 → ∃ g, g ≤ 1000000 ∧ bv_gl lv k = nI g ∧ ∀ w, w < k → ∀ n, n ≤ 1000000 → lv w = nI n → n ≤ g
  | 0, _ => ⟨0, by omega, rfl, fun w hw => absurd hw (Nat.not_lt_zero _)⟩
  | k + 1, hk => by
    obtain ⟨g, hg, e, hall⟩ := bv_gl_spec h k (by omega)
    obtain ⟨n, hn, en⟩ := h k (by omega)
    rw [bv_gl, e, en]
    unfold bv_max
    by_cases c : g < n
    · rw [if_pos ((nI_ltI (by omega) (by omega)).mpr c)]
      refine ⟨n, hn, rfl, fun w hw m hm em => ?_⟩
      by_cases q : w = k
      · subst q; rw [en] at em; have := (nI_eq (by omega) (by omega)).mp em; omega
      · have := hall w (by omega) m hm em; omega
    · rw [if_neg (fun q => c ((nI_ltI (by omega) (by omega)).mp q))]
      refine ⟨g, hg, rfl, fun w hw m hm em => ?_⟩
      by_cases q : w = k
      · subst q; rw [en] at em; have := (nI_eq (by omega) (by omega)).mp em; omega
      · exact hall w (by omega) m hm em
def bv_st (f : Nat → Int32) (S x : Int32) (k : Nat) : Nat → Int32 := fun j => if j < k ∧ bv_has S (nI j) = true then x else f j
theorem bv_st_0 {f : Nat → Int32} {S x : Int32} : bv_st f S x 0 = f := by funext j; unfold bv_st; rw [if_neg (fun h => absurd h.1 (Nat.not_lt_zero _))]
theorem bv_st_s {f : Nat → Int32} {S x : Int32} {k : Nat} (h : bv_has S (nI k) = true) : upd (bv_st f S x k) k x = bv_st f S x (k + 1) := by
  funext j
  show (if j = k then _ else _) = _
  unfold bv_st
  by_cases e : j = k
  · subst e; rw [if_pos rfl, if_pos ⟨Nat.lt_succ_self _, h⟩]
  · rw [if_neg e]
    by_cases hj : j < k ∧ bv_has S (nI j) = true
    · rw [if_pos hj, if_pos ⟨by omega, hj.2⟩]
    · rw [if_neg hj, if_neg (fun q => hj ⟨by omega, q.2⟩)]
theorem bv_st_n {f : Nat → Int32} {S x : Int32} {k : Nat} (h : bv_has S (nI k) = false) : bv_st f S x k = bv_st f S x (k + 1) := by
  funext j
  unfold bv_st
  by_cases e : j = k
  · subst e; rw [if_neg (fun q => absurd q.1 (Nat.lt_irrefl _)), if_neg (fun q => by rw [h] at q; exact absurd q.2 (by decide))]
  · by_cases hj : j < k ∧ bv_has S (nI j) = true
    · rw [if_pos hj, if_pos ⟨by omega, hj.2⟩]
    · rw [if_neg hj, if_neg (fun q => hj ⟨by omega, q.2⟩)]
theorem bv_mp_has {lv : Nat → Int32} {S : Int32} {w : Nat} (hw : w < 16) : bv_has (bv_mp lv S) (nI w) = true ↔ bv_has S (nI w) = true ∧ lv w = bv_ll lv S 16 := by
  unfold bv_mp
  rw [bv_has_wa 16 (Nat.le_refl _) w hw]
  exact ⟨fun h => h.2, fun h => ⟨hw, h⟩⟩
theorem bv_take {lv key f f' : Nat → Int32} {U : Nat → Prop} {nx : Nat} {S : Int32} (hlv : ∀ w, w < 16 → 0 ≤ lv w ∧ lv w < 2147483647) (hS : S &&& 65535 = S) (hne : ¬ S = 0) (h : bv_ex key U nx f)
    (u1 : ∀ w, w < 16 → bv_has S (nI w) = true → ¬ U w) (u2 : ∀ w, w < 16 → ¬ U w → ¬ bv_has S (nI w) = true → ∀ v, v < 16 → bv_has S (nI v) = true → key v < key w)
    (u3 : ∀ v w, v < 16 → w < 16 → bv_has S (nI v) = true → bv_has S (nI w) = true → (lv v ≤ lv w → key v ≤ key w) ∧ (key v = key w → lv v = lv w) ∧ (lv v = lv w → key v = key w))
    (hf : ∀ w, w < 16 → f' w = bv_st f (bv_mp lv S) (nI nx) 16 w) : bv_ex key (fun w => U w ∨ bv_has (bv_mp lv S) (nI w) = true) (nx + 1) f' := by
  obtain ⟨⟨w0, hw0, hs0, e0⟩, hall⟩ := bv_ll_spec hlv 16 (Nat.le_refl _) (bv_some hS hne)
  have hin : ∀ w, w < 16 → ¬ U w → key w = key w0 → bv_has (bv_mp lv S) (nI w) = true := by
    intro w hw hu hk
    by_cases hs : bv_has S (nI w) = true
    · exact (bv_mp_has hw).mpr ⟨hs, by rw [← e0]; exact (u3 w w0 hw hw0 hs hs0).2.1 hk⟩
    · have := u2 w hw hu hs w0 hw0 hs0
      rw [hk] at this
      exact absurd this (bv_irr _)
  have hst := bv_ex_step (f' := f') h (M := key w0) (fun v hv hu => ?_) hw0 (u1 w0 hw0 hs0) rfl (fun w hw hu => ?_) (fun w hw hu hk => ?_)
  · refine bv_ex_iff (fun w hw => ?_) hst
    constructor
    · rintro (q | q)
      · exact Or.inl q
      · by_cases hu : U w
        · exact Or.inl hu
        · exact Or.inr (hin w hw hu q)
    · rintro (q | q)
      · exact Or.inl q
      · have h2 := (bv_mp_has hw).mp q
        exact Or.inr ((u3 w w0 hw hw0 h2.1 hs0).2.2 (by rw [h2.2, e0]))
  · by_cases hs : bv_has S (nI v) = true
    · exact (u3 w0 v hw0 hv hs0 hs).1 (by rw [e0]; exact hall v hv hs)
    · exact Int32.le_of_lt (u2 v hv hu hs w0 hw0 hs0)
  · rw [hf w hw]
    unfold bv_st
    rw [if_neg (fun q => u1 w hw ((bv_mp_has hw).mp q.2).1 hu)]
  · rw [hf w hw]
    unfold bv_st
    rw [if_pos ⟨hw, hin w hw hu hk⟩]
/-- what is left gets fewer -/
theorem bv_left {lv : Nat → Int32} {S : Int32} (hlv : ∀ w, w < 16 → 0 ≤ lv w ∧ lv w < 2147483647) (hS : S &&& 65535 = S) (hne : ¬ S = 0) :
    (S &&& (bv_mp lv S ^^^ (-1))) &&& 65535 = S &&& (bv_mp lv S ^^^ (-1)) ∧ bv_cnt (fun w => bv_has (S &&& (bv_mp lv S ^^^ (-1))) (nI w)) 16 < bv_cnt (fun w => bv_has S (nI w)) 16 ∧ ∀ w, w < 16 → bv_has (S &&& (bv_mp lv S ^^^ (-1))) (nI w) = (bv_has S (nI w) && !bv_has (bv_mp lv S) (nI w)) := by
  have hN : bv_mp lv S &&& 65535 = bv_mp lv S := bv_wa16 _ _ _
  have hh : ∀ w, w < 16 → bv_has (S &&& (bv_mp lv S ^^^ (-1))) (nI w) = (bv_has S (nI w) && !bv_has (bv_mp lv S) (nI w)) := fun w hw => bv_has_less hS hN hw
  obtain ⟨⟨w0, hw0, hs0, e0⟩, -⟩ := bv_ll_spec hlv 16 (Nat.le_refl _) (bv_some hS hne)
  have h0 : bv_has (bv_mp lv S) (nI w0) = true := (bv_mp_has hw0).mpr ⟨hs0, e0⟩
  refine ⟨bv_less16 hS, bv_cnt_lt 16 (fun k hk q => ?_) ⟨w0, hw0, hs0, ?_⟩, hh⟩
  · rw [hh k hk] at q
    exact (Bool.and_eq_true _ _ ▸ q).1
  · rw [hh w0 hw0, hs0, h0]; rfl
theorem bv_all16 : ∀ w, w < 16 → bv_has 65535 (nI w) = true := by decide
theorem bv_lay {lv : Nat → Int32} {S : Int32} {nx : Nat} (hlv : ∀ w, w < 16 → 0 ≤ lv w ∧ lv w < 2147483647) (hS : S &&& 65535 = S) (hne : ¬ S = 0) (h : bv_ex lv (fun w => bv_has S (nI w) = false) nx (fun w => nI (bv_cd lv (lv w) 16))) :
    bv_ex lv (fun w => bv_has (S &&& (bv_mp lv S ^^^ (-1))) (nI w) = false) (nx + 1) (fun w => nI (bv_cd lv (lv w) 16)) := by
  obtain ⟨-, -, hh⟩ := bv_left hlv hS hne
  obtain ⟨⟨w0, hw0, hs0, e0⟩, hall⟩ := bv_ll_spec hlv 16 (Nat.le_refl _) (bv_some hS hne)
  have hD : bv_cd lv (bv_ll lv S 16) 16 = nx := h.2.2 _ (fun w hw q => by rw [← e0]; exact h.2.1 w w0 hw hw0 q (by show ¬ bv_has S (nI w0) = false; rw [hs0]; decide)) (fun v hv q => hall v hv (by cases z : bv_has S (nI v) <;> simp_all))
  refine bv_ex_iff (fun w hw => ?_) (bv_take (key := lv) hlv hS hne h (fun w hw q => by rw [q]; decide) (fun w hw q1 q2 => absurd (by cases z : bv_has S (nI w) <;> simp_all) q1) (fun v w hv hw q1 q2 => ⟨fun q => q, fun q => q, fun q => q⟩) (fun w hw => ?_))
  · rw [hh w hw]
    cases z1 : bv_has S (nI w) <;> cases z2 : bv_has (bv_mp lv S) (nI w) <;> simp_all
  · unfold bv_st
    by_cases c : w < 16 ∧ bv_has (bv_mp lv S) (nI w) = true
    · rw [if_pos c, ((bv_mp_has hw).mp c.2).2, hD]
    · rw [if_neg c]
theorem bv_lay_end {lv : Nat → Int32} {nx : Nat} (h6 : ∀ w, w < 16 → ∃ n, n ≤ 1000000 ∧ lv w = nI n) (h : bv_ex lv (fun w => bv_has 0 (nI w) = false) nx (fun w => nI (bv_cd lv (lv w) 16))) : bv_cd lv (bv_gl lv 16 + 1) 16 = nx := by
  obtain ⟨g, hg, e, hall⟩ := bv_gl_spec h6 16 (Nat.le_refl _)
  refine h.2.2 _ (fun w hw _ => ?_) (fun v hv q => absurd (bv_has0 v hv) q)
  obtain ⟨n, hn, en⟩ := h6 w hw
  have := hall w hw n hn en
  rw [e, en, nI_1]
  exact nI_lt (by omega) (by omega)

set_option maxHeartbeats 4000000 in
set_option maxRecDepth 100000 in
theorem m_X4_layers (l : Launch) (G : va_G) (cI : ClassId) (sz : Nat) (y yp yb yr yl pn bn : Nat) (th : Int32) (pf bs br lv : Nat → Int32) (hp : pn ≤ 12) (hn : bn ≤ 10) (h6 : ∀ w, w < 16 → ∃ n, n ≤ 1000000 ∧ lv w = nI n) : Met l yX4_layers wsX4_layers ({ frames := 2, cells := 0, slots := 0, locals := 45 }) (bv_P [.ref y] G cI (fun H => H.size = sz ∧ va_P G vwCl [(y, .inr (4, [.int th, .int (nI pn), .ref yp, .int (nI bn), .ref yb, .ref yr, .ref yl])), (yp, .inl (cI, 12, .inl pf)), (yb, .inl (cI, 10, .inl bs)), (yr, .inl (cI, 10, .inl br)), (yl, .inl (cI, 16, .inl lv))] H ∧ va_D (fun _ => True) [(y, .inr (4, [.int th, .int (nI pn), .ref yp, .int (nI bn), .ref yb, .ref yr, .ref yl])), (yp, .inl (cI, 12, .inl pf)), (yb, .inl (cI, 10, .inl bs)), (yr, .inl (cI, 10, .inl br)), (yl, .inl (cI, 16, .inl lv))])) (va_Qi (fun (r9 : Int32) (_ : Unit) => r9 = (nI (bv_cd lv (bv_gl lv 16 + 1) 16))) (fun (_ : Unit) (T9 : State) => va_P G vwCl [(y, .inr (4, [.int 0, .int (nI pn), .ref yp, .int (nI bn), .ref yb, .ref yr, .ref yl])), (yp, .inl (cI, 12, .inl pf)), (yb, .inl (cI, 10, .inl bs)), (yr, .inl (cI, 10, .inl br)), (yl, .inl (cI, 16, .inl lv))] T9.heap) (va_A [(y, .inr (4, [.int th, .int (nI pn), .ref yp, .int (nI bn), .ref yb, .ref yr, .ref yl])), (yp, .inl (cI, 12, .inl pf)), (yb, .inl (cI, 10, .inl bs)), (yr, .inl (cI, 10, .inl br)), (yl, .inl (cI, 16, .inl lv))] sz)) 0 0 (va_A [(y, .inr (4, [.int th, .int (nI pn), .ref yp, .int (nI bn), .ref yb, .ref yr, .ref yl])), (yp, .inl (cI, 12, .inl pf)), (yb, .inl (cI, 10, .inl bs)), (yr, .inl (cI, 10, .inl br)), (yl, .inl (cI, 16, .inl lv))] sz) := by
  refine Met.ofW (cc := cX4_layers) (maxL := 3) (ret := (some .int)) (by decide) rfl ?_
  intro p e s m args below meth c s₁ B hml hv
  obtain ⟨rfl, ⟨hsz, hP, hD0⟩, hE⟩ := hv
  have hx := B.exec
  have hb := B.bytes
  have hr := B.returns
  have hts := atoms_spec (ws := wsX4_layers) B.pre
  have hown : s.vm.findClass RX4 = some m.cls := findClass_of_methodNamed B.named
  have hlocks := B.notSynchronized
  have hK := hE.1
  have hw0 := hts (.fieldLink RX4 22 "BeliefReviserModel" "thrown" "I") (List.mem_of_getElem? (i := 1) rfl)
  have hw1 : ∀ w ∈ u_ws RX4 TX4 7, w ∈ wsX4_layers := by decide +kernel
  have hw2 := hts (.constant RX4 51 65535) (List.mem_of_getElem? (i := 2) rfl)
  subst hsz
  have hD := hD0.self (sz := s.heap.size)
  generalize hAe : va_A [(y, .inr (4, [.int th, .int (nI pn), .ref yp, .int (nI bn), .ref yb, .ref yr, .ref yl])), (yp, .inl (cI, 12, .inl pf)), (yb, .inl (cI, 10, .inl bs)), (yr, .inl (cI, 10, .inl br)), (yl, .inl (cI, 16, .inl lv))] s.heap.size = A at hD ⊢
  have hA : ∀ q : Nat, s.heap.size ≤ q → A q := fun q h => by rw [← hAe]; exact Or.inr h
  have hS : va_S A s.heap s.heap [] := va_S.rf
  have hP : va_P G vwCl [(y, .inr (4, [.int th, .int (nI pn), .ref yp, .int (nI bn), .ref yb, .ref yr, .ref yl])), (yp, .inl (cI, 12, .inl pf)), (yb, .inl (cI, 10, .inl bs)), (yr, .inl (cI, 10, .inl br)), (yl, .inl (cI, 16, .inl lv))] s.heap := hP
  have hl := lv_entry ([.ref y]) (n := 3) (Nat.le_of_ble_eq_true rfl)
  rw [lg_entry_eq]
  generalize (lg_sl ([.ref y]) ++ List.replicate (3 - (lg_sl ([.ref y])).length) Slot.unset).toArray = ls at hl ⊢
  have hl : lv_has ls 3 [(0, .ref y)] := hl
  have hlv := bv_hl6 h6
  refine lv_aload_n (pc := 0) hx hb dX4_layers_0 rfl (lv_at hl 0 rfl) ?_
  refine lv_iconst (pc := 1) (v := 0) hx hb dX4_layers_1 (by decide) ?_
  refine va_put (pc := 2) (D := G) (ci := 4) (v := .int 0) (ty := .int) (C := RX4) (T := TX4) (N := 7) hx hb hts hw1 tyX4 tyX4_ok nmX4 hown hK hP hD hS 0 rfl rfl 0 (by decide) hw0 (fun _ h9 => h9) rfl (by decide +kernel) rfl rfl (Nat.le_of_ble_eq_true rfl) dX4_layers_2 (fun H locs hP hD hS => ?_)
  have hP : va_P G vwCl [(y, .inr (4, [.int 0, .int (nI pn), .ref yp, .int (nI bn), .ref yb, .ref yr, .ref yl])), (yp, .inl (cI, 12, .inl pf)), (yb, .inl (cI, 10, .inl bs)), (yr, .inl (cI, 10, .inl br)), (yl, .inl (cI, 16, .inl lv))] H := hP
  have hD : va_D A [(y, .inr (4, [.int 0, .int (nI pn), .ref yp, .int (nI bn), .ref yb, .ref yr, .ref yl])), (yp, .inl (cI, 12, .inl pf)), (yb, .inl (cI, 10, .inl bs)), (yr, .inl (cI, 10, .inl br)), (yl, .inl (cI, 16, .inl lv))] := hD
  refine lv_iconst (pc := 5) (v := 0) hx hb dX4_layers_5 (by decide) ?_
  refine lv_istore_n (pc := 6) (lv' := [(1, .int 0), (0, .ref y)]) hx hb dX4_layers_6 rfl hl (by decide) rfl (fun ls hl => ?_)
  refine lv_ldc (pc := 7) hx hb hown hw2 dX4_layers_7 ?_
  refine lv_istore_n (pc := 9) (lv' := [(2, .int 65535), (1, .int 0), (0, .ref y)]) hx hb dX4_layers_9 rfl hl (by decide) rfl (fun ls hl => ?_)
  have loop_10 : ∀ (fu9 : Nat) (S9 : Int32) (c9 : Nat), bv_cnt (fun w => bv_has S9 (nI w)) 16 < fu9 → (S9 &&& 65535 = S9) → (bv_ex lv (fun w => bv_has S9 (nI w) = false) c9 (fun w => nI (bv_cd lv (lv w) 16))) → ∀ (H : Heap) (locs : List Loc), va_P G vwCl [(y, .inr (4, [.int 0, .int (nI pn), .ref yp, .int (nI bn), .ref yb, .ref yr, .ref yl])), (yp, .inl (cI, 12, .inl pf)), (yb, .inl (cI, 10, .inl bs)), (yr, .inl (cI, 10, .inl br)), (yl, .inl (cI, 16, .inl lv))] H → va_D A [(y, .inr (4, [.int 0, .int (nI pn), .ref yp, .int (nI bn), .ref yb, .ref yr, .ref yl])), (yp, .inl (cI, 12, .inl pf)), (yb, .inl (cI, 10, .inl bs)), (yr, .inl (cI, 10, .inl br)), (yl, .inl (cI, 16, .inl lv))] → va_S A s.heap H locs → ∀ (ls : Array Slot), lv_has ls 3 [(2, .int S9), (1, .int (nI c9)), (0, .ref y)] → W p l e (headSpec wsX4_layers ({ frames := 2, cells := 0, slots := 0, locals := 45 })).room s m ([.ref y] : List Value).toArray below meth c H locs 0 0 (MQ below (va_Qi (fun (r9 : Int32) (_ : Unit) => r9 = (nI (bv_cd lv (bv_gl lv 16 + 1) 16))) (fun (_ : Unit) (T9 : State) => va_P G vwCl [(y, .inr (4, [.int 0, .int (nI pn), .ref yp, .int (nI bn), .ref yb, .ref yr, .ref yl])), (yp, .inl (cI, 12, .inl pf)), (yb, .inl (cI, 10, .inl bs)), (yr, .inl (cI, 10, .inl br)), (yl, .inl (cI, 16, .inl lv))] T9.heap) A) ([.ref y] : List Value).toArray s 0 0 A) (F0 m 10 ls []) := by
    intro fu9
    induction fu9 with
    | zero => intro S9 c9 hfu; exact absurd hfu (Nat.not_lt_zero _)
    | succ fu9 ih =>
      intro S9 c9 hfu h16 hi H locs hP hD hS ls hl
      refine lv_iload_n (pc := 10) hx hb dX4_layers_10 rfl (lv_at hl 0 rfl) ?_
      refine lv_if_eq (pc := 11) (tgt := 35) hx hb dX4_layers_11 (by decide) (fun c11_1 => ?_) (fun c11_1 => ?_)
      · have hz9 := c11_1
        refine lv_iload_n (pc := 35) hx hb dX4_layers_35 rfl (lv_at hl 1 rfl) ?_
        have hP9 : va_P G vwCl [(y, .inr (4, [.int 0, .int (nI pn), .ref yp, .int (nI bn), .ref yb, .ref yr, .ref yl])), (yp, .inl (cI, 12, .inl pf)), (yb, .inl (cI, 10, .inl bs)), (yr, .inl (cI, 10, .inl br)), (yl, .inl (cI, 16, .inl lv))] H := hP
        exact W.iret (pc := 36) (v := (nI c9)) hx hb hr (fun T8 hT8 hW8 => ⟨⟨(nI c9), (), rfl, (by rw [hz9] at hi; rw [bv_lay_end h6 hi]), bv_hP hT8 hP9⟩, hS.F hT8⟩) hS.2.2 dX4_layers_36
      · have hne := c11_1
        refine lv_iinc (pc := 14) (v := (nI (c9 + 1))) (lv' := [(1, .int (nI (c9 + 1))), (2, .int S9), (0, .ref y)]) hx hb dX4_layers_14 hl (k := 1) rfl (nI_1 c9) (by decide) rfl (fun ls hl => ?_)
        refine lv_iload_n (pc := 17) hx hb dX4_layers_17 rfl (lv_at hl 1 rfl) ?_
        refine lv_aload_n (pc := 18) hx hb dX4_layers_18 rfl (lv_at hl 2 rfl) ?_
        refine lv_iload_n (pc := 19) hx hb dX4_layers_19 rfl (lv_at hl 1 rfl) ?_
        refine lv_aload_n (pc := 20) hx hb dX4_layers_20 rfl (lv_at hl 2 rfl) ?_
        refine lv_iload_n (pc := 21) hx hb dX4_layers_21 rfl (lv_at hl 1 rfl) ?_
        have hPc := hP.sub (ws' := [(y, .inr (4, [.int 0, .int (nI pn), .ref yp, .int (nI bn), .ref yb, .ref yr, .ref yl])), (yl, .inl (cI, 16, .inl lv))]) [0, 4] rfl
        refine bv_cSi (pc := 22) (E' := (bv_ll lv S9 16)) (va_runV (As := [.int S9]) (rest := [.int S9, .ref y, .int S9]) ⟨hx, hb, hml, hown, hts⟩ (m_X4_least l G cI y yp yb yr yl 0 (nI pn) (nI bn) lv S9 ) (cwV 1 hts gX4_layers_X4_least rfl rfl rfl (by decide +kernel) ⟨Nat.le_of_ble_eq_true rfl, Nat.le_of_ble_eq_true rfl⟩) (bv_pV hE hPc (va_recv hK hP (ci := 4) (q0 := 0) rfl rfl)) rfl rfl hl.1 rfl (lv_room (Nat.le_of_ble_eq_true rfl)) dX4_layers_22 ⟨Nat.le_of_ble_eq_true rfl, Nat.le_of_ble_eq_true rfl⟩) (bv_ls_eq hlv h16 hne) ?_
        have hPc := hP.sub (ws' := [(y, .inr (4, [.int 0, .int (nI pn), .ref yp, .int (nI bn), .ref yb, .ref yr, .ref yl])), (yl, .inl (cI, 16, .inl lv))]) [0, 4] rfl
        refine bv_cSi (pc := 25) (E' := (bv_mp lv S9)) (va_runV (As := [.int S9, .int (bv_ll lv S9 16)]) (rest := [.int S9]) ⟨hx, hb, hml, hown, hts⟩ (m_X4_withLevel l G cI y yp yb yr yl 0 (nI pn) (nI bn) lv S9 (bv_ll lv S9 16) ) (cwV 2 hts gX4_layers_X4_withLevel rfl rfl rfl (by decide +kernel) ⟨Nat.le_of_ble_eq_true rfl, Nat.le_of_ble_eq_true rfl⟩) (bv_pV hE hPc (va_recv hK hP (ci := 4) (q0 := 0) rfl rfl)) rfl rfl hl.1 rfl (lv_room (Nat.le_of_ble_eq_true rfl)) dX4_layers_25 ⟨Nat.le_of_ble_eq_true rfl, Nat.le_of_ble_eq_true rfl⟩) rfl ?_
        refine lv_iconst (pc := 28) (v := (-1)) hx hb dX4_layers_28 (by decide) ?_
        refine lv_ixor (pc := 29) hx hb dX4_layers_29 ?_
        refine lv_iand (pc := 30) hx hb dX4_layers_30 ?_
        refine lv_istore_n (pc := 31) (lv' := [(2, .int (S9 &&& ((bv_mp lv S9) ^^^ (-1)))), (1, .int (nI (c9 + 1))), (0, .ref y)]) hx hb dX4_layers_31 rfl hl (by decide) rfl (fun ls hl => ?_)
        refine lv_goto (pc := 32) (tgt := 10) hx hb dX4_layers_32 (by decide) ?_
        have hst := (bv_left hlv h16 hne).2.1
        exact ih (S9 &&& ((bv_mp lv S9) ^^^ (-1))) (c9 + 1) (by omega) ((bv_left hlv h16 hne).1) (bv_lay hlv h16 hne hi) H _ hP hD hS ls (lv_sub hl [0, 1, 2] rfl)
  exact loop_10 (bv_cnt (fun w => bv_has 65535 (nI w)) 16 + 1) 65535 0 (Nat.lt_succ_self _) (by decide) (bv_ex_0 (fun w hw q => by rw [bv_all16 w hw] at q; exact absurd q (by decide))) H _ hP hD hS ls (lv_sub hl [0, 1, 2] rfl)
