/-! What follows from a base: kernels, remainders, the cut, the degree, the core. -/
theorem bv_wi_sub {bs : Nat → Int32} {t u : Nat} : ∀ n, (∀ k, k < n → t.testBit k = true → u.testBit k = true) → bv_wi bs u n &&& bv_wi bs t n = bv_wi bs u n
  | 0, _ => (by decide : (65535 : Int32) &&& 65535 = 65535)
  | n + 1, h => by
    have ih := bv_wi_sub n (fun k hk => h k (by omega)) (bs := bs) (t := t) (u := u)
    rw [bv_wi, bv_wi]
    by_cases ct : t.testBit n = true
    · rw [if_pos ct, if_pos (h n (Nat.lt_succ_self _) ct), ← Int32.and_assoc, bv_aac (bv_wi bs u n) (bs n) (bv_wi bs t n), ih, Int32.and_assoc, Int32.and_self]
    · rw [if_neg ct]
      by_cases cu : u.testBit n = true
      · rw [if_pos cu, bv_aac, ih]
      · rw [if_neg cu]; exact ih
theorem bv_de_mono {bs : Nat → Int32} {bn t u : Nat} {g : Int32} (h : ∀ k, k < bn → t.testBit k = true → u.testBit k = true) (hd : bv_de bs bn t g = true) : bv_de bs bn u g = true := by
  have h1 : bv_wi bs t bn &&& bv_not g = 0 := of_decide_eq_true hd
  have h2 : bv_wi bs u bn &&& bv_not g = 0 := by rw [← bv_wi_sub bn h, Int32.and_assoc, h1, Int32.and_zero]
  exact decide_eq_true h2
theorem bv_xb {t k j : Nat} (h : t.testBit k = true) : (t ^^^ 2 ^ k).testBit j = (t.testBit j && !decide (k = j)) := by
  rw [Nat.testBit_xor, Nat.testBit_two_pow]
  by_cases e : k = j
  · subst e; rw [h]; simp
  · simp [e]
theorem bv_ob {t k j : Nat} : (t ||| 2 ^ k).testBit j = (t.testBit j || decide (k = j)) := by rw [Nat.testBit_or, Nat.testBit_two_pow]
theorem bv_ker {bs : Nat → Int32} {bn : Nat} {g : Int32} : ∀ (c t : Nat), bv_cnt (fun k => t.testBit k) bn < c → t < 2 ^ bn → bv_de bs bn t g = true → ∃ s, s < 2 ^ bn ∧ bv_ik bs bn g s = true ∧ ∀ k, k < bn → s.testBit k = true → t.testBit k = true
  | 0, t, hc, _, _ => absurd hc (Nat.not_lt_zero _)
  | c + 1, t, hc, ht, hd => by
    by_cases hk : bv_ik bs bn g t = true
    · exact ⟨t, ht, hk, fun _ _ h => h⟩
    · have hx : ∃ k, k < bn ∧ t.testBit k = true ∧ bv_de bs bn (t ^^^ 2 ^ k) g = true := by
        apply Classical.byContradiction
        intro q
        apply hk
        rw [bv_ik, hd, Bool.true_and, bv_all_iff]
        intro k hk2
        show (!(t.testBit k && bv_de bs bn (t ^^^ 2 ^ k) g)) = true
        cases h1 : t.testBit k with
        | false => rfl
        | true =>
          cases h2 : bv_de bs bn (t ^^^ 2 ^ k) g with
          | false => rfl
          | true => exact absurd ⟨k, hk2, h1, h2⟩ q
      obtain ⟨k, hkn, hb, hd2⟩ := hx
      have hlt : bv_cnt (fun j => (t ^^^ 2 ^ k).testBit j) bn < bv_cnt (fun j => t.testBit j) bn := bv_cnt_lt bn (fun j _ h => by
        have h : (t ^^^ 2 ^ k).testBit j = true := h
        rw [bv_xb hb, Bool.and_eq_true] at h
        exact h.1) ⟨k, hkn, hb, by
        show (t ^^^ 2 ^ k).testBit k = false
        rw [bv_xb hb]
        simp⟩
      obtain ⟨s, h1, h2, h3⟩ := bv_ker c _ (by omega) (bv_xlt ht hkn) hd2
      exact ⟨s, h1, h2, fun j hj hs => by
        have h := h3 j hj hs
        rw [bv_xb hb, Bool.and_eq_true] at h
        exact h.1⟩
theorem bv_rem {bs : Nat → Int32} {bn : Nat} {g : Int32} : ∀ (c t : Nat), bv_cnt (fun k => !t.testBit k) bn < c → t < 2 ^ bn → bv_de bs bn t g = false → ∃ s, s < 2 ^ bn ∧ bv_ir bs bn g s = true
  | 0, t, hc, _, _ => absurd hc (Nat.not_lt_zero _)
  | c + 1, t, hc, ht, hd => by
    by_cases hk : bv_ir bs bn g t = true
    · exact ⟨t, ht, hk⟩
    · have hx : ∃ k, k < bn ∧ t.testBit k = false ∧ bv_de bs bn (t ||| 2 ^ k) g = false := by
        apply Classical.byContradiction
        intro q
        apply hk
        rw [bv_ir, hd, Bool.not_false, Bool.true_and, bv_all_iff]
        intro k hk2
        show (t.testBit k || bv_de bs bn (t ||| 2 ^ k) g) = true
        cases h1 : t.testBit k with
        | true => rfl
        | false =>
          cases h2 : bv_de bs bn (t ||| 2 ^ k) g with
          | true => rfl
          | false => exact absurd ⟨k, hk2, h1, h2⟩ q
      obtain ⟨k, hkn, hb, hd2⟩ := hx
      have hlt : bv_cnt (fun j => !(t ||| 2 ^ k).testBit j) bn < bv_cnt (fun j => !t.testBit j) bn := bv_cnt_lt bn (fun j _ h => by
        have h : (!(t ||| 2 ^ k).testBit j) = true := h
        show (!t.testBit j) = true
        rw [bv_ob] at h
        cases q : t.testBit j with
        | false => rfl
        | true => rw [q] at h; simp at h) ⟨k, hkn, by show (!t.testBit k) = true; rw [hb]; rfl, by
        show (!(t ||| 2 ^ k).testBit k) = false
        rw [bv_ob]
        simp⟩
      exact bv_rem c _ (by omega) (bv_olt ht hkn) hd2
theorem bv_cnt_pos {f : Nat → Bool} : ∀ {N : Nat}, 0 < bv_cnt f N ↔ ∃ t, t < N ∧ f t = true
  | 0 => ⟨fun h => absurd h (Nat.lt_irrefl 0), fun ⟨t, h, _⟩ => absurd h (Nat.not_lt_zero _)⟩
  | N + 1 => by
    rw [bv_cnt]
    by_cases c : f N = true
    · rw [if_pos c]
      exact ⟨fun _ => ⟨N, Nat.lt_succ_self _, c⟩, fun _ => Nat.succ_pos _⟩
    · rw [if_neg c, bv_cnt_pos]
      constructor
      · rintro ⟨t, h1, h2⟩
        exact ⟨t, by omega, h2⟩
      · rintro ⟨t, h1, h2⟩
        have : t ≠ N := fun e => c (by rw [← e]; exact h2)
        exact ⟨t, by omega, h2⟩
theorem bv_fnd_ok {f : Nat → Bool} {i : Int32} : ∀ {N x : Nat}, bv_fnd f i N = some x → f x = true
  | 0, x, h => by cases h
  | N + 1, x, h => by
    rw [bv_fnd] at h
    cases h0 : bv_fnd f i N with
    | some y => rw [h0] at h; cases h; exact bv_fnd_ok h0
    | none =>
      rw [h0] at h
      by_cases hc : f N = true ∧ nI (bv_cnt f N) = i
      · simp only [if_pos hc] at h; cases h; exact hc.1
      · simp only [if_neg hc] at h; cases h
theorem bv_fnd_ex {f : Nat → Bool} {j : Nat} : ∀ N, N ≤ 1024 → j < bv_cnt f N → ∃ x, bv_fnd f (nI j) N = some x
  | 0, _, h => absurd h (Nat.not_lt_zero _)
  | N + 1, hN, h => by
    cases h0 : bv_fnd f (nI j) N with
    | some x => exact ⟨x, by rw [bv_fnd, h0]⟩
    | none =>
      have hn : ¬ j < bv_cnt f N := fun q => by
        obtain ⟨x, hx⟩ := bv_fnd_ex N (by omega) q
        rw [h0] at hx
        cases hx
      rw [bv_cnt] at h
      by_cases c : f N = true
      · rw [if_pos c] at h
        have hj : bv_cnt f N = j := by omega
        exact ⟨N, by rw [bv_fnd, h0]; exact if_pos ⟨c, by rw [hj]⟩⟩
      · rw [if_neg c] at h
        exact absurd h hn
theorem bv_allb (bn : Nat) : ∀ k, k < bn → (2 ^ bn - 1).testBit k = true := fun k hk => by
  rw [Nat.testBit_two_pow_sub_one]
  exact decide_eq_true hk
theorem bv_alll (bn : Nat) : 2 ^ bn - 1 < 2 ^ bn := by
  have := Nat.two_pow_pos bn
  omega
theorem bv_de_all {bs : Nat → Int32} {bn t : Nat} {g : Int32} (h : bv_de bs bn t g = true) : bv_de bs bn (2 ^ bn - 1) g = true := bv_de_mono (fun k hk _ => bv_allb bn k hk) h
theorem bv_ik_de {bs : Nat → Int32} {bn t : Nat} {g : Int32} (h : bv_ik bs bn g t = true) : bv_de bs bn t g = true := by
  rw [bv_ik, Bool.and_eq_true] at h
  exact h.1
theorem bv_ir_de {bs : Nat → Int32} {bn t : Nat} {g : Int32} (h : bv_ir bs bn g t = true) : bv_de bs bn t g = false := by
  rw [bv_ir, Bool.and_eq_true] at h
  cases q : bv_de bs bn t g with
  | false => rfl
  | true => rw [q] at h; exact absurd h.1 (by decide)
theorem bv_ker_ex {bs : Nat → Int32} {bn t : Nat} {g : Int32} (ht : t < 2 ^ bn) (hd : bv_de bs bn t g = true) : ∃ s, s < 2 ^ bn ∧ bv_ik bs bn g s = true ∧ ∀ k, k < bn → s.testBit k = true → t.testBit k = true := bv_ker _ t (Nat.lt_succ_self _) ht hd
/-- kernels are there just if the base entails it -/
theorem bv_T1 {bs : Nat → Int32} {bn : Nat} {g : Int32} : 0 < bv_cnt (bv_is true bs bn g) (2 ^ bn) ↔ bv_de bs bn (2 ^ bn - 1) g = true := by
  rw [bv_cnt_pos]
  constructor
  · rintro ⟨t, h1, h2⟩
    exact bv_de_all (bv_ik_de h2)
  · intro h
    obtain ⟨s, h1, h2, -⟩ := bv_ker_ex (bv_alll bn) h
    exact ⟨s, h1, h2⟩
theorem bv_de_top {bs : Nat → Int32} {bn t : Nat} : bv_de bs bn t 65535 = true := by
  refine decide_eq_true ?_
  rw [show bv_not 65535 = 0 from by decide, Int32.and_zero]
theorem bv_de_0 {bs : Nat → Int32} {bn : Nat} {g : Int32} (hg : g &&& 65535 = g) (h : ¬ g = 65535) : bv_de bs bn 0 g = false := by
  refine decide_eq_false ?_
  rw [bv_wi_0, Int32.and_comm, bv_not16]
  exact bv_notnz hg h
/-- remainders are there unless it is true everywhere -/
theorem bv_T2a {bs : Nat → Int32} {bn : Nat} : bv_cnt (bv_is false bs bn 65535) (2 ^ bn) = 0 := by
  apply Nat.eq_zero_of_not_pos
  rw [bv_cnt_pos]
  rintro ⟨t, h1, h2⟩
  have h3 := bv_ir_de (t := t) h2
  rw [bv_de_top] at h3
  cases h3
theorem bv_T2b {bs : Nat → Int32} {bn : Nat} {g : Int32} (hg : g &&& 65535 = g) (h : ¬ g = 65535) : 0 < bv_cnt (bv_is false bs bn g) (2 ^ bn) := by
  rw [bv_cnt_pos]
  obtain ⟨s, h1, h2⟩ := bv_rem _ 0 (Nat.lt_succ_self _) (Nat.two_pow_pos bn) (bv_de_0 (bs := bs) hg h)
  exact ⟨s, h1, h2⟩
theorem bv_rf_bit {br : Nat → Int32} {r : Int32} : ∀ {n k : Nat}, k < n → ((bv_rf br r n).testBit k = true ↔ r ≤ br k)
  | 0, k, hk => absurd hk (Nat.not_lt_zero _)
  | n + 1, k, hk => by
    have hl := bv_rf_lt br r n
    rw [bv_rf]
    by_cases e : k = n
    · subst e
      by_cases c : r ≤ br k
      · rw [if_pos c, bv_ob]; simp [c]
      · rw [if_neg c, Nat.testBit_lt_two_pow hl]; simp [c]
    · have ih := bv_rf_bit (br := br) (r := r) (n := n) (k := k) (by omega)
      by_cases c : r ≤ br n
      · rw [if_pos c, bv_ob, Bool.or_eq_true, ih]
        constructor
        · rintro (h | h)
          · exact h
          · exact absurd (of_decide_eq_true h).symm e
        · exact Or.inl
      · rw [if_neg c]; exact ih
theorem bv_rf_1 {br : Nat → Int32} {bn : Nat} (hbr : ∀ j, j < bn → ∃ r, 1 ≤ r ∧ r ≤ 9 ∧ br j = nI r) : ∀ k, k < bn → (bv_rf br (nI 1) bn).testBit k = true := fun k hk => by
  rw [bv_rf_bit hk]
  obtain ⟨r, h1, h2, e⟩ := hbr k hk
  rw [e]
  exact nI_le h1 (by omega)
theorem bv_dg_no {f : Nat → Bool} : ∀ n, (∀ r, r ≤ n → ¬ f r = true) → bv_dg f n = 0
  | 0, _ => rfl
  | n + 1, h => by
    rw [bv_dg, if_neg (h _ (Nat.le_refl _))]
    exact bv_dg_no n (fun r hr => h r (by omega))
theorem bv_dg_at {f : Nat → Bool} : ∀ n, bv_dg f n = 0 ∨ f (bv_dg f n) = true
  | 0 => Or.inl rfl
  | n + 1 => by
    rw [bv_dg]
    by_cases c : f (n + 1) = true
    · rw [if_pos c]; exact Or.inr c
    · rw [if_neg c]; exact bv_dg_at n
theorem bv_dg_up {f : Nat → Bool} : ∀ n r, bv_dg f n < r → r ≤ n → ¬ f r = true
  | 0, r, h1, h2 => absurd (Nat.lt_of_lt_of_le h1 h2) (Nat.lt_irrefl 0)
  | n + 1, r, h1, h2 => by
    rw [bv_dg] at h1
    by_cases c : f (n + 1) = true
    · rw [if_pos c] at h1; omega
    · rw [if_neg c] at h1
      by_cases e : r = n + 1
      · rw [e]; exact c
      · exact bv_dg_up n r h1 (by omega)
/-- its degree is above 0 just if the base entails it -/
theorem bv_T3a {bs br : Nat → Int32} {bn : Nat} {g : Int32} (hd : bv_de bs bn (2 ^ bn - 1) g = false) : bv_degn bs br bn g = 0 := by
  have hg : ¬ g = 65535 := fun e => by rw [e, bv_de_top] at hd; cases hd
  unfold bv_degn
  rw [if_neg hg]
  refine bv_dg_no 9 (fun r _ q => ?_)
  have := bv_de_all (show bv_de bs bn (bv_rf br (nI r) bn) g = true from q)
  rw [hd] at this
  cases this
theorem bv_T3b {bs br : Nat → Int32} {bn : Nat} {g : Int32} (hbr : ∀ j, j < bn → ∃ r, 1 ≤ r ∧ r ≤ 9 ∧ br j = nI r) (hd : bv_de bs bn (2 ^ bn - 1) g = true) : 0 < bv_degn bs br bn g := by
  unfold bv_degn
  by_cases hg : g = 65535
  · rw [if_pos hg]; decide
  · rw [if_neg hg]
    apply Classical.byContradiction
    intro q
    refine bv_dg_up (f := bv_fr bs br bn g) 9 1 (by omega) (by decide) ?_
    exact bv_de_mono (fun k hk _ => bv_rf_1 hbr k hk) hd

