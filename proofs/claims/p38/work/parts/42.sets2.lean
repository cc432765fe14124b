/-! The cut; the base itself as the only remainder; kernels and remainders; the core. -/
theorem bv_andn (a b : Nat) : nI a &&& (nI b ^^^ (-1)) = nI (a ^^^ (a &&& b)) := by
  apply Int32.toBitVec_inj.mp
  rw [← bv_nIx, ← bv_nIa, Int32.toBitVec_xor, Int32.toBitVec_and, Int32.toBitVec_and, Int32.toBitVec_xor, bv_m1b]
  apply BitVec.eq_of_getElem_eq
  intro i hi
  simp only [BitVec.getElem_xor, BitVec.getElem_and, BitVec.getElem_allOnes]
  cases (nI a).toBitVec[i] <;> cases (nI b).toBitVec[i] <;> rfl
theorem bv_andb {a b k : Nat} : (a ^^^ (a &&& b)).testBit k = (a.testBit k && !b.testBit k) := by
  rw [Nat.testBit_xor, Nat.testBit_and]
  cases a.testBit k <;> cases b.testBit k <;> rfl
theorem bv_andlt {a b n : Nat} (ha : a < 2 ^ n) : a ^^^ (a &&& b) < 2 ^ n := Nat.xor_lt_two_pow ha (Nat.lt_of_le_of_lt Nat.and_le_left ha)
theorem bv_lstN {br : Nat → Int32} {t : Nat} : ∀ n, (∀ j, j < n → ∃ r, 1 ≤ r ∧ r ≤ 9 ∧ br j = nI r) → (∃ r, r ≤ 9 ∧ bv_lst br t n = nI r) ∧ ((∃ k, k < n ∧ t.testBit k = true) → ∃ k, k < n ∧ t.testBit k = true ∧ br k = bv_lst br t n)
  | 0, _ => ⟨⟨9, Nat.le_refl _, rfl⟩, fun ⟨k, hk, _⟩ => absurd hk (Nat.not_lt_zero _)⟩
  | n + 1, h => by
    obtain ⟨⟨a, ha, ea⟩, ih⟩ := bv_lstN n (fun j hj => h j (by omega)) (br := br) (t := t)
    obtain ⟨b, hb1, hb2, eb⟩ := h n (Nat.lt_succ_self _)
    rw [bv_lst]
    by_cases c : t.testBit n = true
    · rw [if_pos c]
      unfold bv_min
      by_cases q : br n < bv_lst br t n
      · rw [if_pos q]
        exact ⟨⟨b, hb2, eb⟩, fun _ => ⟨n, Nat.lt_succ_self _, c, rfl⟩⟩
      · rw [if_neg q]
        refine ⟨⟨a, ha, ea⟩, fun _ => ?_⟩
        by_cases hs : ∃ k, k < n ∧ t.testBit k = true
        · obtain ⟨k, h1, h2, h3⟩ := ih hs
          exact ⟨k, by omega, h2, h3⟩
        · refine ⟨n, Nat.lt_succ_self _, c, ?_⟩
          have h9 : bv_lst br t n = 9 := by
            have key : ∀ m, m ≤ n → bv_lst br t m = 9 := by
              intro m
              induction m with
              | zero => intro _; rfl
              | succ m ihm =>
                intro hm
                rw [bv_lst, if_neg (fun z => hs ⟨m, by omega, z⟩)]
                exact ihm (by omega)
            exact key n (Nat.le_refl _)
          rw [h9, eb] at q ⊢
          have : ¬ nI b < nI 9 := q
          have h10 : ¬ b < 9 := fun z => this (nI_lt z (by decide))
          rw [show b = 9 by omega]
          rfl
    · rw [if_neg c]
      refine ⟨⟨a, ha, ea⟩, fun ⟨k, h1, h2⟩ => ?_⟩
      have hk : k ≠ n := fun e => c (by rw [← e]; exact h2)
      obtain ⟨k2, g1, g2, g3⟩ := ih ⟨k, by omega, h2⟩
      exact ⟨k2, by omega, g2, g3⟩
/-- what the least ranked of a set are, as a set of numbers -/
theorem bv_lrN {br : Nat → Int32} {bn t : Nat} (hbr : ∀ j, j < bn → ∃ r, 1 ≤ r ∧ r ≤ 9 ∧ br j = nI r) (ht : t < 2 ^ bn) : ∃ c, c < 2 ^ bn ∧ bv_lr br bn t = nI c ∧ ((∃ k, k < bn ∧ t.testBit k = true) → ∃ k, k < bn ∧ t.testBit k = true ∧ c.testBit k = true) := by
  obtain ⟨⟨r, hr, er⟩, hx⟩ := bv_lstN bn hbr (t := t)
  refine ⟨t ^^^ (t &&& bv_rf br (bv_lst br t bn + 1) bn), bv_andlt ht, by rw [bv_lr, bv_andn], fun h => ?_⟩
  obtain ⟨k, h1, h2, h3⟩ := hx h
  refine ⟨k, h1, h2, ?_⟩
  rw [bv_andb, h2, Bool.true_and]
  cases q : (bv_rf br (bv_lst br t bn + 1) bn).testBit k with
  | false => rfl
  | true =>
    have q2 := (bv_rf_bit h1).mp q
    rw [h3, er, nI_1] at q2
    exact absurd q2 (nI_ge (Nat.lt_succ_self _) (by omega))
theorem bv_cutN {br : Nat → Int32} {bn : Nat} {f : Nat → Bool} (hbr : ∀ j, j < bn → ∃ r, 1 ≤ r ∧ r ≤ 9 ∧ br j = nI r) : ∀ N, N ≤ 2 ^ bn → ∃ c, c < 2 ^ bn ∧ bv_cut f (bv_lr br bn) N = nI c ∧ ∀ t, t < N → f t = true → (∃ k, k < bn ∧ t.testBit k = true) → ∃ k, k < bn ∧ t.testBit k = true ∧ c.testBit k = true
  | 0, _ => ⟨0, Nat.two_pow_pos bn, rfl, fun t ht => absurd ht (Nat.not_lt_zero _)⟩
  | N + 1, hN => by
    obtain ⟨c, h1, h2, h3⟩ := bv_cutN hbr N (by omega) (f := f)
    rw [bv_cut]
    by_cases q : f N = true
    · rw [if_pos q, h2]
      obtain ⟨d, g1, g2, g3⟩ := bv_lrN hbr (show N < 2 ^ bn by omega)
      refine ⟨c ||| d, Nat.or_lt_two_pow h1 g1, by rw [g2, bv_nIo], fun t ht hf hs => ?_⟩
      by_cases e : t = N
      · subst e
        obtain ⟨k, k1, k2, k3⟩ := g3 hs
        exact ⟨k, k1, k2, by rw [Nat.testBit_or, k3, Bool.or_true]⟩
      · obtain ⟨k, k1, k2, k3⟩ := h3 t (by omega) hf hs
        exact ⟨k, k1, k2, by rw [Nat.testBit_or, k3, Bool.true_or]⟩
    · rw [if_neg q]
      refine ⟨c, h1, h2, fun t ht hf hs => h3 t ?_ hf hs⟩
      have : t ≠ N := fun e => q (by rw [← e]; exact hf)
      omega
/-- without its cut the base doesn't entail it -/
theorem bv_T4 {bs br : Nat → Int32} {bn : Nat} {g : Int32} (hbr : ∀ j, j < bn → ∃ r, 1 ≤ r ∧ r ≤ 9 ∧ br j = nI r) (hg : g &&& 65535 = g) (h : ¬ g = 65535) : ∃ t, t < 2 ^ bn ∧ nI (2 ^ bn - 1) &&& (bv_cut (bv_ik bs bn g) (bv_lr br bn) (2 ^ bn) ^^^ (-1)) = nI t ∧ bv_de bs bn t g = false := by
  obtain ⟨c, h1, h2, h3⟩ := bv_cutN hbr (2 ^ bn) (Nat.le_refl _) (f := bv_ik bs bn g)
  refine ⟨(2 ^ bn - 1) ^^^ ((2 ^ bn - 1) &&& c), bv_andlt (bv_alll bn), by rw [h2, bv_andn], ?_⟩
  cases q : bv_de bs bn ((2 ^ bn - 1) ^^^ ((2 ^ bn - 1) &&& c)) g with
  | false => rfl
  | true =>
    obtain ⟨s, s1, s2, s3⟩ := bv_ker_ex (bv_andlt (bv_alll bn)) q
    have hs : ∃ k, k < bn ∧ s.testBit k = true := by
      apply Classical.byContradiction
      intro z
      have h5 := bv_de_mono (u := 0) (fun k hk hb => absurd ⟨k, hk, hb⟩ z) (bv_ik_de s2)
      rw [bv_de_0 hg h] at h5
      cases h5
    obtain ⟨k, k1, k2, k3⟩ := h3 s s1 s2 hs
    have h6 := s3 k k1 k2
    rw [bv_andb, k3, Bool.not_true, Bool.and_false] at h6
    cases h6
theorem bv_cut_no {f : Nat → Bool} {g : Nat → Int32} : ∀ n, (∀ t, t < n → f t = false) → bv_cut f g n = 0
  | 0, _ => rfl
  | n + 1, h => by
    rw [bv_cut, h n (Nat.lt_succ_self _), if_neg (by decide)]
    exact bv_cut_no n (fun t ht => h t (by omega))
theorem bv_ik_no {bs : Nat → Int32} {bn : Nat} {g : Int32} (hd : bv_de bs bn (2 ^ bn - 1) g = false) (t : Nat) : bv_ik bs bn g t = false := by
  cases q : bv_ik bs bn g t with
  | false => rfl
  | true =>
    have := bv_de_all (bv_ik_de q)
    rw [hd] at this
    cases this
theorem bv_T5a {bs : Nat → Int32} {bn : Nat} {g : Int32} {r : Nat → Int32} (hd : bv_de bs bn (2 ^ bn - 1) g = false) : bv_cut (bv_ik bs bn g) r (2 ^ bn) = 0 := bv_cut_no _ (fun t _ => bv_ik_no hd t)
theorem bv_ir_all {bs : Nat → Int32} {bn : Nat} {g : Int32} (hd : bv_de bs bn (2 ^ bn - 1) g = false) : bv_ir bs bn g (2 ^ bn - 1) = true := by
  rw [bv_ir, hd, Bool.not_false, Bool.true_and, bv_all_iff]
  intro k hk
  show ((2 ^ bn - 1).testBit k || bv_de bs bn ((2 ^ bn - 1) ||| 2 ^ k) g) = true
  rw [bv_allb bn k hk, Bool.true_or]
theorem bv_ir_less {bs : Nat → Int32} {bn : Nat} {g : Int32} (hd : bv_de bs bn (2 ^ bn - 1) g = false) {t : Nat} (ht : t < 2 ^ bn - 1) : bv_ir bs bn g t = false := by
  cases q : bv_ir bs bn g t with
  | false => rfl
  | true =>
    rw [bv_ir, Bool.and_eq_true, bv_all_iff] at q
    exfalso
    have hx : ∀ k, k < bn → t.testBit k = true := fun k hk => by
      have h1 : (t.testBit k || bv_de bs bn (t ||| 2 ^ k) g) = true := q.2 k hk
      cases z : t.testBit k with
      | true => rfl
      | false =>
        rw [z, Bool.false_or] at h1
        have := bv_de_all h1
        rw [hd] at this
        cases this
    have he : t = 2 ^ bn - 1 := by
      apply Nat.eq_of_testBit_eq
      intro k
      by_cases hk : k < bn
      · rw [hx k hk, bv_allb bn k hk]
      · have hp : 2 ^ bn ≤ 2 ^ k := Nat.pow_le_pow_right (by decide) (by omega)
        rw [Nat.testBit_lt_two_pow (by omega), Nat.testBit_lt_two_pow (by omega)]
    omega
theorem bv_cnt_no {f : Nat → Bool} : ∀ n, (∀ t, t < n → f t = false) → bv_cnt f n = 0
  | 0, _ => rfl
  | n + 1, h => by
    rw [bv_cnt, h n (Nat.lt_succ_self _), if_neg (by decide)]
    exact bv_cnt_no n (fun t ht => h t (by omega))
theorem bv_fnd_no {f : Nat → Bool} {i : Int32} : ∀ n, (∀ t, t < n → f t = false) → bv_fnd f i n = none
  | 0, _ => rfl
  | n + 1, h => by
    rw [bv_fnd, bv_fnd_no n (fun t ht => h t (by omega))]
    exact if_neg (fun q => by rw [h n (Nat.lt_succ_self _)] at q; exact absurd q.1 (by decide))
theorem bv_best_no {f : Nat → Bool} {gt : Nat → Nat → Bool} : ∀ n, (∀ t, t < n → f t = false) → bv_best f gt n = none
  | 0, _ => rfl
  | n + 1, h => by
    rw [bv_best, bv_best_no n (fun t ht => h t (by omega))]
    show (if f n then some n else none) = none
    rw [h n (Nat.lt_succ_self _), if_neg (by decide)]
theorem bv_2p (bn : Nat) : 2 ^ bn = (2 ^ bn - 1) + 1 := by
  have := Nat.two_pow_pos bn
  omega
/-- if nothing follows, the base itself is the only remainder -/
theorem bv_T5b {bs : Nat → Int32} {bn : Nat} {g : Int32} (hd : bv_de bs bn (2 ^ bn - 1) g = false) : bv_cnt (bv_is false bs bn g) (2 ^ bn) = 1 ∧ bv_fnd (bv_is false bs bn g) (nI 0) (2 ^ bn) = some (2 ^ bn - 1) := by
  have hl : ∀ t, t < 2 ^ bn - 1 → bv_is false bs bn g t = false := fun t ht => bv_ir_less hd ht
  have ha : bv_is false bs bn g (2 ^ bn - 1) = true := bv_ir_all hd
  generalize hN : 2 ^ bn - 1 = N at hl ha
  have h2 : 2 ^ bn = N + 1 := by rw [← hN]; exact bv_2p bn
  rw [h2]
  refine ⟨by rw [bv_cnt, if_pos ha, bv_cnt_no N hl], ?_⟩
  rw [bv_fnd, bv_fnd_no N hl]
  exact if_pos ⟨ha, by rw [bv_cnt_no N hl]⟩
theorem bv_T5c {bs : Nat → Int32} {bn : Nat} {g : Int32} {gt : Nat → Nat → Bool} (hd : bv_de bs bn (2 ^ bn - 1) g = false) : bv_best (bv_ir bs bn g) gt (2 ^ bn) = some (2 ^ bn - 1) := by
  have hl : ∀ t, t < 2 ^ bn - 1 → bv_ir bs bn g t = false := fun t ht => bv_ir_less hd ht
  have ha : bv_ir bs bn g (2 ^ bn - 1) = true := bv_ir_all hd
  generalize hN : 2 ^ bn - 1 = N at hl ha
  have h2 : 2 ^ bn = N + 1 := by rw [← hN]; exact bv_2p bn
  rw [h2, bv_best, bv_best_no N hl]
  show (if bv_ir bs bn g N then some N else none) = some N
  rw [if_pos ha]
/-- no remainder has a kernel within it -/
theorem bv_T6 {bs : Nat → Int32} {bn x y : Nat} {g : Int32} (hn : bn ≤ 10) (hx : x < 2 ^ bn) (hy : y < 2 ^ bn) (h1 : bv_is false bs bn g x = true) (h2 : bv_is true bs bn g y = true) : ¬ nI y &&& (nI x ^^^ (-1)) = 0 := by
  intro h
  have hp := bv_p10 hn
  have hl := bv_andlt (b := x) hy
  rw [bv_andn] at h
  have h0 : y ^^^ (y &&& x) = 0 := (nI_eq (b := 0) (by omega) (by decide)).mp h
  have h3 := bv_de_mono (u := x) (fun k _ hb => by
    have h4 : (y ^^^ (y &&& x)).testBit k = false := by rw [h0, Nat.zero_testBit]
    rw [bv_andb, hb, Bool.true_and] at h4
    cases q : x.testBit k with
    | true => rfl
    | false => rw [q] at h4; cases h4) (bv_ik_de (show bv_ik bs bn g y = true from h2))
  rw [bv_ir_de (show bv_ir bs bn g x = true from h1)] at h3
  cases h3
theorem bv_de_zero {bs : Nat → Int32} {bn t : Nat} : bv_de bs bn t 0 = true ↔ bv_wi bs t bn = 0 := by
  unfold bv_de
  rw [decide_eq_true_iff, show bv_not 0 = 65535 from by decide, bv_wi16]
/-- the core is never empty -/
theorem bv_T7a {bs br : Nat → Int32} {bn : Nat} (hbr : ∀ j, j < bn → ∃ r, 1 ≤ r ∧ r ≤ 9 ∧ br j = nI r) : ¬ bv_core bs br bn = 0 := by
  intro h
  have h1 : bv_degn bs br bn 0 = bv_dg (bv_fr bs br bn 0) 9 := by unfold bv_degn; rw [if_neg (by decide)]
  have hle := bv_dg_le (bv_fr bs br bn 0) 9
  unfold bv_core at h
  rw [h1] at h
  generalize hc : bv_dg (bv_fr bs br bn 0) 9 = c at h hle
  by_cases c9 : c = 9
  · subst c9
    have h0 : bv_rf br (nI (9 + 1)) bn = 0 := by
      apply Nat.eq_of_testBit_eq
      intro k
      rw [Nat.zero_testBit]
      by_cases hk : k < bn
      · cases q : (bv_rf br (nI (9 + 1)) bn).testBit k with
        | false => rfl
        | true =>
          have q2 := (bv_rf_bit hk).mp q
          obtain ⟨r, r1, r2, er⟩ := hbr k hk
          rw [er] at q2
          exact absurd q2 (nI_ge (by omega) (by decide))
      · have hp : 2 ^ bn ≤ 2 ^ k := Nat.pow_le_pow_right (by decide) (by omega)
        exact Nat.testBit_lt_two_pow (Nat.lt_of_lt_of_le (bv_rf_lt _ _ _) hp)
    rw [h0, bv_wi_0] at h
    exact absurd h (by decide)
  · refine bv_dg_up (f := bv_fr bs br bn 0) 9 (c + 1) (by omega) (by omega) ?_
    exact bv_de_zero.mpr h
theorem bv_rf_1all {br : Nat → Int32} {bn : Nat} (hbr : ∀ j, j < bn → ∃ r, 1 ≤ r ∧ r ≤ 9 ∧ br j = nI r) : bv_rf br (nI 1) bn = 2 ^ bn - 1 := by
  apply Nat.eq_of_testBit_eq
  intro k
  by_cases hk : k < bn
  · rw [bv_rf_1 hbr k hk, bv_allb bn k hk]
  · have hp : 2 ^ bn ≤ 2 ^ k := Nat.pow_le_pow_right (by decide) (by omega)
    have := bv_alll bn
    rw [Nat.testBit_lt_two_pow (Nat.lt_of_lt_of_le (bv_rf_lt _ _ _) hp), Nat.testBit_lt_two_pow (by omega)]
/-- without a conflict it is that of the base -/
theorem bv_T7b {bs br : Nat → Int32} {bn : Nat} (hbr : ∀ j, j < bn → ∃ r, 1 ≤ r ∧ r ≤ 9 ∧ br j = nI r) (h : bv_degn bs br bn 0 = 0) : bv_core bs br bn = bv_wi bs (2 ^ bn - 1) bn := by
  unfold bv_core
  rw [h, bv_rf_1all hbr]
theorem bv_T7c {bs br : Nat → Int32} {bn : Nat} : bv_wi bs (2 ^ bn - 1) bn &&& (bv_core bs br bn ^^^ (-1)) = 0 := by
  have h := bv_wi_sub (bs := bs) (t := bv_rf br (nI (bv_degn bs br bn 0 + 1)) bn) (u := 2 ^ bn - 1) bn (fun k hk _ => bv_allb bn k hk)
  have h2 : bv_wi bs (2 ^ bn - 1) bn &&& bv_core bs br bn = bv_wi bs (2 ^ bn - 1) bn := h
  obtain ⟨a, _, ea⟩ := bv_16 (bv_wi16 bs (2 ^ bn - 1) bn)
  obtain ⟨b, _, eb⟩ := bv_16 (show bv_core bs br bn &&& 65535 = bv_core bs br bn from bv_wi16 _ _ _)
  rw [ea, eb] at h2 ⊢
  rw [bv_andn, ← bv_nIx, ← bv_nIa, h2, Int32.xor_self]

