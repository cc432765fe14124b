/-! Learning: the reference's way and the class's. -/
theorem bv_ll_congr {f g : Nat → Int32} {T : Int32} : ∀ k, (∀ w, w < k → bv_has T (nI w) = true → f w = g w) → bv_ll f T k = bv_ll g T k
  | 0, _ => rfl
  | k + 1, h => by
    have ih := bv_ll_congr k (fun w hw => h w (by omega)) (f := f) (g := g) (T := T)
    rw [bv_ll, bv_ll, ih]
    by_cases c : bv_has T (nI k) = true
    · rw [h k (Nat.lt_succ_self _) c]
    · rw [if_neg (fun q => c q.1), if_neg (fun q => c q.1)]
theorem bv_sh_ext {f : Nat → Int32} {T d d' : Int32} (h : ∀ w, w < 16 → bv_has T (nI w) = true → d = d') : bv_sh f T d 16 = bv_sh f T d' 16 := by
  funext j
  unfold bv_sh
  by_cases c : j < 16 ∧ bv_has T (nI j) = true
  · rw [if_pos c, if_pos c, h j c.1 c.2]
  · rw [if_neg c, if_neg c]
theorem bv_firm_m {lv : Nat → Int32} {S fi : Int32} (hlv : ∀ w, w < 16 → 0 ≤ lv w ∧ lv w < 2147483647) (hS : S &&& 65535 = S) (h0 : ¬ S = 0) (hn : ¬ bv_not S = 0) :
    bv_sh (bv_sh lv S (-(bv_ls lv S 16)) 16) (bv_not S) (fi - bv_ls lv (bv_not S) 16) 16 = bv_firm lv S fi := by
  unfold bv_firm bv_firm1
  have e : bv_ll (bv_sh lv S (-(bv_ll lv S 16)) 16) (bv_not S) 16 = bv_ll lv (bv_not S) 16 := by
    refine bv_ll_congr 16 (fun w hw q => ?_)
    unfold bv_sh
    rw [bv_has_not hS hw] at q
    rw [if_neg (fun z => by rw [z.2] at q; exact absurd q (by decide))]
  rw [bv_ls_eq hlv hS h0, bv_ls_eq hlv (bv_not16 _) hn, e]
theorem bv_firm_0 {lv : Nat → Int32} {S fi d : Int32} (hlv : ∀ w, w < 16 → 0 ≤ lv w ∧ lv w < 2147483647) (hS : S &&& 65535 = S) (h0 : ¬ S = 0) (hn : bv_not S = 0) :
    bv_sh (bv_sh lv S (-(bv_ls lv S 16)) 16) (bv_not S) d 16 = bv_firm lv S fi := by
  unfold bv_firm bv_firm1
  rw [bv_ls_eq hlv hS h0]
  refine bv_sh_ext (fun w hw q => ?_)
  rw [hn, bv_has0 w hw] at q
  exact absurd q (by decide)
theorem bv_ls_const {f : Nat → Int32} {T x : Int32} (hx : x < 2147483647) : ∀ k, (∀ w, w < k → bv_has T (nI w) = true → f w = x) → ((∃ w, w < k ∧ bv_has T (nI w) = true) → bv_ls f T k = x) ∧ (bv_ls f T k = x ∨ bv_ls f T k = 2147483647)
  | 0, _ => ⟨fun q => absurd q.choose_spec.1 (Nat.not_lt_zero _), Or.inr rfl⟩
  | k + 1, h => by
    obtain ⟨h1, h2⟩ := bv_ls_const hx k (fun w hw => h w (by omega)) (f := f) (T := T)
    rw [bv_ls]
    by_cases c : bv_has T (nI k) = true
    · rw [if_pos c, h k (Nat.lt_succ_self _) c]
      have e : bv_min (bv_ls f T k) x = x := by
        unfold bv_min
        rcases h2 with q | q
        · rw [q]; split <;> rfl
        · rw [q, if_pos hx]
      rw [e]
      exact ⟨fun _ => rfl, Or.inl rfl⟩
    · rw [if_neg c]
      refine ⟨fun q => h1 ?_, h2⟩
      obtain ⟨w, hw, hh⟩ := q
      refine ⟨w, ?_, hh⟩
      by_cases z : w = k
      · subst z; exact absurd hh c
      · omega
theorem bv_neg_self (x : Int32) : x + -x = 0 := by rw [← Int32.sub_eq_add_neg]; exact Int32.sub_self x
theorem bv_doubt_m {lv : Nat → Int32} {T : Int32} (h6 : ∀ w, w < 16 → ∃ n, n ≤ 1000000 ∧ lv w = nI n) (hT : T &&& 65535 = T) (h0 : ¬ T = 0) :
    bv_sh lv (bv_mp lv T) (-(bv_ls lv (bv_mp lv T) 16)) 16 = bv_bf lv (bv_mp lv T) 16 := by
  have hlv := bv_hl6 h6
  obtain ⟨⟨w0, hw0, hs0, e0⟩, -⟩ := bv_ll_spec hlv 16 (Nat.le_refl _) (bv_some hT h0)
  have hc : ∀ w, w < 16 → bv_has (bv_mp lv T) (nI w) = true → lv w = bv_ll lv T 16 := fun w hw q => ((bv_mp_has hw).mp q).2
  have hb : bv_ll lv T 16 < 2147483647 := by rw [← e0]; exact (hlv w0 hw0).2
  have e1 := (bv_ls_const hb 16 hc).1 ⟨w0, hw0, (bv_mp_has hw0).mpr ⟨hs0, e0⟩⟩
  funext j
  unfold bv_sh bv_bf
  by_cases c : j < 16 ∧ bv_has (bv_mp lv T) (nI j) = true
  · rw [if_pos c, if_pos c, e1, hc j c.1 c.2]; exact bv_neg_self _
  · rw [if_neg c, if_neg c]
theorem bv_nat_m {lv : Nat → Int32} {T : Int32} (h6 : ∀ w, w < 16 → ∃ n, n ≤ 1000000 ∧ lv w = nI n) (hT : T &&& 65535 = T) (h0 : ¬ T = 0) :
    bv_sh (bv_sh lv (65535 &&& (bv_mp lv T ^^^ (-1))) 1 16) (bv_mp lv T) (-(bv_ls (bv_sh lv (65535 &&& (bv_mp lv T ^^^ (-1))) 1 16) (bv_mp lv T) 16)) 16 = bv_nat lv T := by
  have hlv := bv_hl6 h6
  have hN : bv_mp lv T &&& 65535 = bv_mp lv T := bv_wa16 _ _ _
  obtain ⟨⟨w0, hw0, hs0, e0⟩, -⟩ := bv_ll_spec hlv 16 (Nat.le_refl _) (bv_some hT h0)
  have hh : ∀ w, w < 16 → bv_has (65535 &&& (bv_mp lv T ^^^ (-1))) (nI w) = !bv_has (bv_mp lv T) (nI w) := fun w hw => bv_has_not hN hw
  have hc : ∀ w, w < 16 → bv_has (bv_mp lv T) (nI w) = true → bv_sh lv (65535 &&& (bv_mp lv T ^^^ (-1))) 1 16 w = bv_ll lv T 16 := fun w hw q => by
    unfold bv_sh
    rw [if_neg (fun z => by rw [hh w hw, q] at z; exact absurd z.2 (by decide))]
    exact ((bv_mp_has hw).mp q).2
  have hb : bv_ll lv T 16 < 2147483647 := by rw [← e0]; exact (hlv w0 hw0).2
  have e1 := (bv_ls_const hb 16 hc).1 ⟨w0, hw0, (bv_mp_has hw0).mpr ⟨hs0, e0⟩⟩
  rw [e1]
  unfold bv_nat
  funext j
  by_cases hj : j < 16
  · cases q : bv_has (bv_mp lv T) (nI j) with
    | true =>
      have := hc j hj q
      rw [show bv_sh (bv_sh lv (65535 &&& (bv_mp lv T ^^^ (-1))) 1 16) (bv_mp lv T) (-(bv_ll lv T 16)) 16 j = bv_sh lv (65535 &&& (bv_mp lv T ^^^ (-1))) 1 16 j + -(bv_ll lv T 16) from by rw [bv_sh, if_pos ⟨hj, q⟩], this, bv_neg_self]
      rw [bv_bf, if_pos ⟨hj, q⟩]
    | false =>
      rw [bv_sh, if_neg (fun z => by rw [q] at z; exact absurd z.2 (by decide)), bv_sh, if_pos ⟨hj, by rw [hh j hj, q]; rfl⟩]
      rw [bv_bf, if_neg (fun z => by rw [q] at z; exact absurd z.2 (by decide)), bv_sh, if_pos ⟨hj, bv_all16 j hj⟩]
  · rw [bv_sh, if_neg (fun z => hj z.1), bv_sh, if_neg (fun z => hj z.1), bv_bf, if_neg (fun z => hj z.1), bv_sh, if_neg (fun z => hj z.1)]

