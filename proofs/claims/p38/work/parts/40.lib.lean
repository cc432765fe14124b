/-! Pure lemmas, as in whole. -/
theorem bv_m1b : (-1 : Int32).toBitVec = BitVec.allOnes 32 := by decide
theorem bv_x1 (x m : Int32) : (x &&& m) ^^^ m = m &&& (x ^^^ (-1)) := by
  apply Int32.toBitVec_inj.mp
  rw [Int32.toBitVec_xor, Int32.toBitVec_and, Int32.toBitVec_and, Int32.toBitVec_xor, bv_m1b]
  apply BitVec.eq_of_getElem_eq
  intro i hi
  simp only [BitVec.getElem_xor, BitVec.getElem_and, BitVec.getElem_allOnes]
  cases x.toBitVec[i] <;> cases m.toBitVec[i] <;> rfl
theorem bv_not_x {x : Int32} (h : x &&& 65535 = x) : x ^^^ 65535 = bv_not x := by
  have := bv_x1 x 65535
  rw [h] at this
  exact this
theorem bv_aac (a b c : Int32) : a &&& b &&& c = a &&& c &&& b := by rw [Int32.and_assoc, Int32.and_comm b c, ← Int32.and_assoc]
theorem bv_wi16 (bs : Nat → Int32) (t k : Nat) : bv_wi bs t k &&& 65535 = bv_wi bs t k := by
  induction k with
  | zero => exact (by decide : (65535 : Int32) &&& 65535 = 65535)
  | succ k ih =>
    rw [bv_wi]
    split
    · rw [bv_aac, ih]
    · exact ih
def bv_ls (lv : Nat → Int32) (S : Int32) : Nat → Int32
  | 0 => 2147483647
  | w + 1 => if bv_has S (nI w) then bv_min (bv_ls lv S w) (lv w) else bv_ls lv S w
theorem bv_ls_ll {lv : Nat → Int32} {S : Int32} (h : ∀ w, w < 16 → 0 ≤ lv w ∧ lv w < 2147483647) : ∀ k, k ≤ 16 → (bv_ll lv S k = -1 ∧ bv_ls lv S k = 2147483647 ∧ ∀ w, w < k → bv_has S (nI w) = false) ∨ (0 ≤ bv_ll lv S k ∧ bv_ls lv S k = bv_ll lv S k)
  | 0, _ => Or.inl ⟨rfl, rfl, fun w hw => absurd hw (Nat.not_lt_zero _)⟩
  | k + 1, hk => by
    have hl := h k (by omega)
    cases hh : bv_has S (nI k) with
    | false =>
      rw [bv_ll, bv_ls, hh, if_neg (fun q => absurd q.1 (by decide)), if_neg (by decide)]
      rcases bv_ls_ll h k (by omega) with ⟨h1, h2, h3⟩ | h1
      · refine Or.inl ⟨h1, h2, fun w hw => ?_⟩
        by_cases e : w = k
        · subst e; exact hh
        · exact h3 w (by omega)
      · exact Or.inr h1
    | true =>
      refine Or.inr ?_
      rw [bv_ll, bv_ls, hh, if_pos rfl]
      rcases bv_ls_ll h k (by omega) with ⟨h1, h2, h3⟩ | ⟨h1, h2⟩
      · rw [h1, h2, if_pos ⟨rfl, Or.inl (by decide)⟩]
        unfold bv_min
        rw [if_pos hl.2]
        exact ⟨hl.1, rfl⟩
      · rw [h2]
        unfold bv_min
        by_cases q : lv k < bv_ll lv S k
        · rw [if_pos q, if_pos ⟨rfl, Or.inr q⟩]; exact ⟨hl.1, rfl⟩
        · rw [if_neg q, if_neg (fun z => z.2.elim (Int32.not_lt.mpr h1) q)]; exact ⟨h1, rfl⟩
theorem bv_16 {x : Int32} (h : x &&& 65535 = x) : ∃ n, n < 65536 ∧ x = nI n := by
  obtain ⟨j, hj, e⟩ := pk_andE x (m := 65535) 16 (by decide)
  exact ⟨j, hj, by rw [← h]; exact e⟩
theorem bv_nI16 {n : Nat} (h : n < 65536) : nI n &&& 65535 = nI n := by
  rw [show (65535 : Int32) = nI 65535 from rfl, bv_nIa]
  congr 1
  have := Nat.and_two_pow_sub_one_eq_mod n 16
  rw [show 2 ^ 16 - 1 = 65535 from rfl] at this
  rw [this, Nat.mod_eq_of_lt (by omega)]
theorem bv_some {S : Int32} (h : S &&& 65535 = S) (h0 : ¬ S = 0) : ∃ w, w < 16 ∧ bv_has S (nI w) = true := by
  obtain ⟨n, hn, rfl⟩ := bv_16 h
  have h1 : n ≠ 0 := fun e => h0 (by rw [e]; rfl)
  obtain ⟨i, hi⟩ := Nat.exists_testBit_of_ne_zero h1
  have h2 : i < 16 := by
    rcases Nat.lt_or_ge i 16 with q | q
    · exact q
    · have := Nat.testBit_lt_two_pow (show n < 2 ^ i from Nat.lt_of_lt_of_le hn (show 2 ^ 16 ≤ 2 ^ i from Nat.pow_le_pow_right (by decide) q))
      rw [hi] at this; exact absurd this (by decide)
  exact ⟨i, h2, by rw [bv_has_nI (by omega) (by omega)]; exact hi⟩
theorem bv_not16 (x : Int32) : bv_not x &&& 65535 = bv_not x := by
  unfold bv_not
  rw [bv_aac, show (65535 : Int32) &&& 65535 = 65535 from by decide]
theorem bv_notnz {x : Int32} (h : x &&& 65535 = x) (h0 : ¬ x = 65535) : ¬ bv_not x = 0 := by
  intro e
  have h1 := bv_not_x h
  rw [e] at h1
  apply h0
  have h2 : x ^^^ 65535 ^^^ 65535 = x := by rw [Int32.xor_assoc, Int32.xor_self, Int32.xor_zero]
  rw [h1] at h2
  rw [← h2]; decide
theorem bv_has0 (w : Nat) (hw : w < 16) : bv_has 0 (nI w) = false := by
  have := bv_has_nI (t := 0) (k := w) (by decide) (by omega)
  rw [show nI 0 = 0 from rfl] at this
  rw [this, Nat.zero_testBit]
def bv_waN (lv : Nat → Int32) (S x : Int32) : Nat → Nat
  | 0 => 0
  | w + 1 => if bv_has S (nI w) = true ∧ lv w = x then bv_waN lv S x w ||| 2 ^ w else bv_waN lv S x w
theorem bv_wa_nI (lv : Nat → Int32) (S x : Int32) : ∀ k, k ≤ 16 → bv_wa lv S x k = nI (bv_waN lv S x k) ∧ bv_waN lv S x k < 2 ^ k
  | 0, _ => ⟨rfl, Nat.one_pos⟩
  | k + 1, hk => by
    obtain ⟨h1, h2⟩ := bv_wa_nI lv S x k (by omega)
    have h3 : 2 ^ k < 2 ^ (k + 1) := Nat.pow_lt_pow_right (by decide) (Nat.lt_succ_self k)
    rw [bv_wa, bv_waN]
    split
    · exact ⟨by rw [h1]; exact bv_obit (by omega), Nat.or_lt_two_pow (Nat.lt_trans h2 h3) h3⟩
    · exact ⟨h1, Nat.lt_trans h2 h3⟩
theorem bv_wa16 (lv : Nat → Int32) (S x : Int32) : bv_wa lv S x 16 &&& 65535 = bv_wa lv S x 16 := by
  obtain ⟨h1, h2⟩ := bv_wa_nI lv S x 16 (Nat.le_refl _)
  rw [h1]; exact bv_nI16 h2
theorem bv_irr (x : Int32) : ¬ x < x := fun z => Int32.lt_irrefl z
theorem bv_all_iff {f : Nat → Bool} : ∀ {n : Nat}, bv_all f n = true ↔ ∀ k, k < n → f k = true
  | 0 => ⟨fun _ k hk => absurd hk (Nat.not_lt_zero _), fun _ => rfl⟩
  | n + 1 => by
    rw [bv_all, Bool.and_eq_true, bv_all_iff]
    constructor
    · intro h k hk
      by_cases e : k = n
      · rw [e]; exact h.2
      · exact h.1 k (by omega)
    · intro h
      exact ⟨fun k hk => h k (by omega), h n (Nat.lt_succ_self _)⟩
theorem bv_fst_iff {f : Nat → Int32} {n : Nat} : bv_fst f n = true ↔ ∀ k, k < n → f k ≠ f n := by
  unfold bv_fst
  rw [bv_all_iff]
  constructor
  · intro h k hk e
    have := h k hk
    rw [decide_eq_true e] at this
    exact absurd this (by decide)
  · intro h k hk
    rw [decide_eq_false (h k hk)]; rfl
theorem bv_fst_congr {f g : Nat → Int32} {n : Nat} (h : ∀ k, k ≤ n → f k = g k) : bv_fst f n = bv_fst g n := by
  have : bv_fst f n = true ↔ bv_fst g n = true := by
    rw [bv_fst_iff, bv_fst_iff]
    constructor
    · intro q k hk; rw [← h k (by omega), ← h n (Nat.le_refl _)]; exact q k hk
    · intro q k hk; rw [h k (by omega), h n (Nat.le_refl _)]; exact q k hk
  cases h1 : bv_fst f n <;> cases h2 : bv_fst g n <;> simp_all
theorem bv_cd_congr {f g : Nat → Int32} {x : Int32} : ∀ n, (∀ k, k < n → f k = g k) → bv_cd f x n = bv_cd g x n
  | 0, _ => rfl
  | n + 1, h => by
    rw [bv_cd, bv_cd, bv_cd_congr n (fun k hk => h k (by omega)), h n (Nat.lt_succ_self _), bv_fst_congr (fun k hk => h k (by omega))]
theorem bv_cd_zero {f : Nat → Int32} {x : Int32} : ∀ n, (∀ k, k < n → x ≤ f k) → bv_cd f x n = 0
  | 0, _ => rfl
  | n + 1, h => by
    rw [bv_cd, if_neg (fun q => absurd q.1 (Int32.not_lt.mpr (h n (Nat.lt_succ_self _))))]
    exact bv_cd_zero n (fun k hk => h k (by omega))
theorem bv_has_less {S N : Int32} (hS : S &&& 65535 = S) (hN : N &&& 65535 = N) {w : Nat} (hw : w < 16) : bv_has (S &&& (N ^^^ (-1))) (nI w) = (bv_has S (nI w) && !bv_has N (nI w)) := by
  obtain ⟨a, ha, rfl⟩ := bv_16 hS
  obtain ⟨b, hb, rfl⟩ := bv_16 hN
  have e1 : nI a &&& (nI b ^^^ (-1)) = (nI a ||| nI b) ^^^ nI b := by
    apply Int32.toBitVec_inj.mp
    rw [Int32.toBitVec_xor, Int32.toBitVec_and, Int32.toBitVec_or, Int32.toBitVec_xor, bv_m1b]
    apply BitVec.eq_of_getElem_eq
    intro i hi
    simp only [BitVec.getElem_xor, BitVec.getElem_and, BitVec.getElem_or, BitVec.getElem_allOnes]
    cases (nI a).toBitVec[i] <;> cases (nI b).toBitVec[i] <;> rfl
  have l1 : a ||| b < 2 ^ 16 := Nat.or_lt_two_pow ha hb
  have l2 : (a ||| b) ^^^ b < 2 ^ 16 := Nat.xor_lt_two_pow l1 hb
  rw [e1, bv_nIo, bv_nIx, bv_has_nI (by omega) (by omega), bv_has_nI (by omega) (by omega), bv_has_nI (by omega) (by omega), Nat.testBit_xor, Nat.testBit_or]
  cases a.testBit w <;> cases b.testBit w <;> rfl
theorem bv_has_wa {lv : Nat → Int32} {S x : Int32} : ∀ k, k ≤ 16 → ∀ w, w < 16 → (bv_has (bv_wa lv S x k) (nI w) = true ↔ w < k ∧ bv_has S (nI w) = true ∧ lv w = x)
  | 0, _, w, hw => by
    rw [show bv_wa lv S x 0 = 0 from rfl, bv_has0 w hw]
    exact ⟨fun h => absurd h (by decide), fun h => absurd h.1 (Nat.not_lt_zero _)⟩
  | k + 1, hk, w, hw => by
    have ih := bv_has_wa k (by omega) w hw (lv := lv) (S := S) (x := x)
    obtain ⟨e1, l1⟩ := bv_wa_nI lv S x k (by omega)
    have l2 : 2 ^ k ≤ 2 ^ 16 := Nat.pow_le_pow_right (by decide) (by omega)
    rw [bv_wa]
    by_cases c : bv_has S (nI k) = true ∧ lv k = x
    · rw [if_pos c, e1, bv_obit (by omega)]
      rw [e1, bv_has_nI (by omega) (by omega)] at ih
      have l3 : bv_waN lv S x k ||| 2 ^ k < 2 ^ 16 := Nat.or_lt_two_pow (by omega) (Nat.pow_lt_pow_right (by decide) (by omega))
      rw [bv_has_nI (by omega) (by omega), Nat.testBit_or, Nat.testBit_two_pow, Bool.or_eq_true, ih]
      constructor
      · rintro (h | h)
        · exact ⟨by omega, h.2⟩
        · have h := of_decide_eq_true h; subst h; exact ⟨by omega, c⟩
      · rintro ⟨h1, h2⟩
        by_cases e : k = w
        · exact Or.inr (decide_eq_true e)
        · exact Or.inl ⟨by omega, h2⟩
    · rw [if_neg c, ih]
      constructor
      · rintro ⟨h1, h2⟩; exact ⟨by omega, h2⟩
      · rintro ⟨h1, h2⟩
        refine ⟨?_, h2⟩
        by_cases e : w = k
        · subst e; exact absurd h2 c
        · omega
theorem bv_ll_spec {lv : Nat → Int32} {S : Int32} (h : ∀ w, w < 16 → 0 ≤ lv w ∧ lv w < 2147483647) : ∀ k, k ≤ 16 → (∃ w, w < k ∧ bv_has S (nI w) = true) → (∃ w, w < k ∧ bv_has S (nI w) = true ∧ lv w = bv_ll lv S k) ∧ ∀ w, w < k → bv_has S (nI w) = true → bv_ll lv S k ≤ lv w
  | 0, _, hx => absurd hx.choose_spec.1 (Nat.not_lt_zero _)
  | k + 1, hk, hx => by
    have hnn : (¬ ∃ w, w < k ∧ bv_has S (nI w) = true) → bv_ll lv S k = -1 := by
      intro q
      rcases bv_ls_ll h k (by omega) (S := S) with h1 | h1
      · exact h1.1
      · exfalso
        have : ∀ j, j ≤ k → bv_ll lv S j = -1 := by
          intro j
          induction j with
          | zero => intro _; rfl
          | succ j ihj =>
            intro hj
            rw [bv_ll, if_neg (fun z => q ⟨j, by omega, z.1⟩)]
            exact ihj (by omega)
        rw [this k (Nat.le_refl _)] at h1
        exact absurd h1.1 (by decide)
    rw [bv_ll]
    by_cases hs : ∃ w, w < k ∧ bv_has S (nI w) = true
    · obtain ⟨⟨w0, hw0, hs0, e0⟩, hall⟩ := bv_ll_spec h k (by omega) hs
      have hpos : ¬ bv_ll lv S k < 0 := by rw [← e0]; exact Int32.not_lt.mpr (h w0 (by omega)).1
      by_cases c : bv_has S (nI k) = true ∧ (bv_ll lv S k < 0 ∨ lv k < bv_ll lv S k)
      · rw [if_pos c]
        have hlt := c.2.resolve_left hpos
        refine ⟨⟨k, Nat.lt_succ_self _, c.1, rfl⟩, fun w hw hh => ?_⟩
        by_cases e : w = k
        · rw [e]; exact Int32.le_refl _
        · exact Int32.le_of_lt (Int32.lt_of_lt_of_le hlt (hall w (by omega) hh))
      · rw [if_neg c]
        refine ⟨⟨w0, by omega, hs0, e0⟩, fun w hw hh => ?_⟩
        by_cases e : w = k
        · subst e
          exact Int32.not_lt.mp (fun q => c ⟨hh, Or.inr q⟩)
        · exact hall w (by omega) hh
    · have e1 := hnn hs
      have hk2 : bv_has S (nI k) = true := by
        obtain ⟨w, hw, hh⟩ := hx
        by_cases e : w = k
        · rw [← e]; exact hh
        · exact absurd ⟨w, by omega, hh⟩ hs
      rw [if_pos ⟨hk2, Or.inl (by rw [e1]; decide)⟩]
      refine ⟨⟨k, Nat.lt_succ_self _, hk2, rfl⟩, fun w hw hh => ?_⟩
      by_cases e : w = k
      · rw [e]; exact Int32.le_refl _
      · exact absurd ⟨w, by omega, hh⟩ hs
theorem bv_cnt_lt {f g : Nat → Bool} : ∀ n, (∀ k, k < n → g k = true → f k = true) → (∃ k, k < n ∧ f k = true ∧ g k = false) → bv_cnt g n < bv_cnt f n
  | 0, _, hx => absurd hx.choose_spec.1 (Nat.not_lt_zero _)
  | n + 1, h, hx => by
    have hle : ∀ m, m ≤ n → bv_cnt g m ≤ bv_cnt f m := by
      intro m
      induction m with
      | zero => intro _; exact Nat.le_refl _
      | succ m ihm =>
        intro hm
        have := ihm (by omega)
        rw [bv_cnt, bv_cnt]
        cases hg : g m with
        | true => rw [h m (by omega) hg]; simp; exact this
        | false => cases hf : f m <;> simp <;> omega
    rw [bv_cnt, bv_cnt]
    by_cases hn : f n = true ∧ g n = false
    · rw [hn.1, hn.2]
      have := hle n (Nat.le_refl _)
      simp; omega
    · have : bv_cnt g n < bv_cnt f n := bv_cnt_lt n (fun k hk => h k (by omega)) (by
        obtain ⟨k, hk, h1, h2⟩ := hx
        refine ⟨k, ?_, h1, h2⟩
        by_cases e : k = n
        · subst e; exact absurd ⟨h1, h2⟩ hn
        · omega)
      cases hg : g n with
      | true => rw [h n (Nat.lt_succ_self _) hg]; simp; omega
      | false => cases hf : f n <;> simp <;> omega
theorem bv_hl6 {lv : Nat → Int32} (h : ∀ w, w < 16 → ∃ n, n ≤ 1000000 ∧ lv w = nI n) : ∀ w, w < 16 → 0 ≤ lv w ∧ lv w < 2147483647 := by
  intro w hw
  obtain ⟨n, hn, e⟩ := h w hw
  rw [e]
  exact ⟨nI_pos' (by omega), nI_lt (show n < 2147483647 by omega) (by decide)⟩
theorem bv_gl_spec {lv : Nat → Int32} (h : ∀ w, w < 16 → ∃ n, n ≤ 1000000 ∧ lv w = nI n) : ∀ k, k ≤ 16 → ∃ g, g ≤ 1000000 ∧ bv_gl lv k = nI g ∧ ∀ w, w < k → ∀ n, n ≤ 1000000 → lv w = nI n → n ≤ g
  | 0, _ => ⟨0, by omega, rfl, fun w hw => absurd hw (Nat.not_lt_zero _)⟩
  | k + 1, hk => by
    obtain ⟨g, hg, e, hall⟩ := bv_gl_spec h k (by omega)
    obtain ⟨n, hn, en⟩ := h k (by omega)
    rw [bv_gl, e, en]
    unfold bv_max
    by_cases c : g < n
    · rw [if_pos ((nI_ltI (by omega) (by omega)).mpr c)]
      refine ⟨n, hn, rfl, fun w hw m hm em => ?_⟩
      by_cases q : w = k
      · subst q; rw [en] at em; have := (nI_eq (by omega) (by omega)).mp em; omega
      · have := hall w (by omega) m hm em; omega
    · rw [if_neg (fun q => c ((nI_ltI (by omega) (by omega)).mp q))]
      refine ⟨g, hg, rfl, fun w hw m hm em => ?_⟩
      by_cases q : w = k
      · subst q; rw [en] at em; have := (nI_eq (by omega) (by omega)).mp em; omega
      · exact hall w (by omega) m hm em
theorem bv_mp_has {lv : Nat → Int32} {S : Int32} {w : Nat} (hw : w < 16) : bv_has (bv_mp lv S) (nI w) = true ↔ bv_has S (nI w) = true ∧ lv w = bv_ll lv S 16 := by
  unfold bv_mp
  rw [bv_has_wa 16 (Nat.le_refl _) w hw]
  exact ⟨fun h => h.2, fun h => ⟨hw, h⟩⟩
theorem bv_all16 : ∀ w, w < 16 → bv_has 65535 (nI w) = true := by decide
def bv_ordr (lv : Nat → Int32) (S : Int32) : Nat → Int32 := bv_put1 lv (fun w => nI (bv_cd (bv_key lv S) (bv_key lv S w) 16)) 16
theorem bv_strict_eq (lv ks : Nat → Int32) (S : Int32) : bv_strict lv ks S = bv_ordr lv S := by
  have hk : ∀ k, k < 16 → bv_keys lv ks S k = bv_key lv S k := by
    intro k hk
    unfold bv_keys bv_put1
    rw [if_pos hk]
  unfold bv_strict bv_byk bv_ordr
  funext j
  unfold bv_put1
  by_cases hj : j < 16
  · rw [if_pos hj, if_pos hj]
    show nI (bv_cd (bv_keys lv ks S) (bv_keys lv ks S j) 16) = nI (bv_cd (bv_key lv S) (bv_key lv S j) 16)
    rw [hk j hj, bv_cd_congr 16 hk]
  · rw [if_neg hj, if_neg hj]
theorem bv_keyN {lv : Nat → Int32} {S : Int32} (h6 : ∀ w, w < 16 → ∃ n, n ≤ 1000000 ∧ lv w = nI n) : ∃ g, g ≤ 1000000 ∧ ∀ w, w < 16 → ∃ n, n ≤ g ∧ lv w = nI n ∧ bv_key lv S w = if bv_has S (nI w) = true then nI n else nI (n + (g + 1)) := by
  obtain ⟨g, hg, e, hall⟩ := bv_gl_spec h6 16 (Nat.le_refl _)
  refine ⟨g, hg, fun w hw => ?_⟩
  obtain ⟨n, hn, en⟩ := h6 w hw
  refine ⟨n, hall w hw n hn en, en, ?_⟩
  unfold bv_key
  rw [e, en, nI_1, nI_add]
theorem bv_has_not {S : Int32} (hS : S &&& 65535 = S) {w : Nat} (hw : w < 16) : bv_has (bv_not S) (nI w) = !bv_has S (nI w) := by
  unfold bv_not
  rw [bv_has_less (by decide) hS hw, bv_all16 w hw, Bool.true_and]
def bv_pfB (pn : Nat) (pf : Nat → Int32) : Prop := pn ≤ 12 ∧ ∀ j, j < pn → pf j &&& 65535 = pf j
def bv_bsB (bn : Nat) (bs br mt : Nat → Int32) : Prop := bn ≤ 10 ∧ (∀ j, j < bn → bs j &&& 65535 = bs j) ∧ (∀ j, j < bn → ∃ r, 1 ≤ r ∧ r ≤ 9 ∧ br j = nI r) ∧ ∀ t, t < 2 ^ bn → mt t = bv_wi bs t bn
def bv_lvB (M : Nat) (lv : Nat → Int32) : Prop := (∀ w, w < 16 → ∃ n, n ≤ M ∧ lv w = nI n) ∧ ∃ w, w < 16 ∧ lv w = 0
theorem bv_and16 {a b : Int32} (h : a &&& 65535 = a) : (a &&& b) &&& 65535 = a &&& b := by
  rw [Int32.and_assoc, Int32.and_comm b, ← Int32.and_assoc, h]
theorem bv_or16 {a b : Int32} (ha : a &&& 65535 = a) (hb : b &&& 65535 = b) : (a ||| b) &&& 65535 = a ||| b := by
  obtain ⟨n, hn, rfl⟩ := bv_16 ha
  obtain ⟨m9, hm, rfl⟩ := bv_16 hb
  rw [bv_nIo]
  exact bv_nI16 (Nat.or_lt_two_pow (n := 16) hn hm)
theorem bv_join16 {i a b : Int32} (ha : a &&& 65535 = a) (hb : b &&& 65535 = b) : bv_join i a b &&& 65535 = bv_join i a b := by
  unfold bv_join
  split
  · exact bv_and16 ha
  · split
    · exact bv_or16 ha hb
    · split
      · exact bv_or16 ha (bv_not16 b)
      · exact bv_not16 _
theorem bv_pf_push {pn : Nat} {pf : Nat → Int32} {v : Int32} (h : bv_pfB pn pf) (hl : pn < 12) (hv : v &&& 65535 = v) : bv_pfB (pn + 1) (upd pf pn v) := ⟨hl, fun j hj => by
  show (if j = pn then v else pf j) &&& 65535 = (if j = pn then v else pf j)
  by_cases e : j = pn
  · rw [if_pos e]; exact hv
  · rw [if_neg e]; exact h.2 j (by omega)⟩
theorem bv_pf_less {pn m9 : Nat} {pf : Nat → Int32} (h : bv_pfB pn pf) (hm : m9 ≤ pn) : bv_pfB m9 pf := ⟨Nat.le_trans hm h.1, fun j hj => h.2 j (by omega)⟩
theorem bv_wi_congr {f g : Nat → Int32} {t u : Nat} : ∀ n, (∀ k, k < n → f k = g k ∧ t.testBit k = u.testBit k) → bv_wi f t n = bv_wi g u n
  | 0, _ => rfl
  | n + 1, h => by
    rw [bv_wi, bv_wi, bv_wi_congr n (fun k hk => h k (by omega)), (h n (Nat.lt_succ_self n)).1, (h n (Nat.lt_succ_self n)).2]
theorem bv_wi_0 {f : Nat → Int32} : ∀ n, bv_wi f 0 n = 65535
  | 0 => rfl
  | n + 1 => by rw [bv_wi, Nat.zero_testBit, if_neg (by decide)]; exact bv_wi_0 n
theorem bv_rk {r : Int32} (hr : 1 ≤ r ∧ r ≤ 9) : ∃ q, 1 ≤ q ∧ q ≤ 9 ∧ r = nI q := by
  obtain ⟨q, hq, e2⟩ := bv_ix2 (i := r) (m9 := 9) (n := 9) (by decide) (Int32.le_trans (by decide) hr.1) hr.2
  refine ⟨q, ?_, hq, e2⟩
  by_cases z : q = 0
  · rw [e2, z] at hr; exact absurd hr.1 (by decide)
  · omega
theorem bv_bs_add {bn : Nat} {bs br mt : Nat → Int32} {v r : Int32} (h : bv_bsB bn bs br mt) (hl : bn < 10) (hv : v &&& 65535 = v) (hr : 1 ≤ r ∧ r ≤ 9) : bv_bsB (bn + 1) (upd bs bn v) (upd br bn r) (bv_mx mt (2 ^ bn) v (2 ^ bn)) := by
  obtain ⟨h1, h2, h3, h4⟩ := h
  refine ⟨by omega, fun j hj => ?_, fun j hj => ?_, fun t ht => ?_⟩
  · show (if j = bn then v else bs j) &&& 65535 = (if j = bn then v else bs j)
    by_cases e : j = bn
    · rw [if_pos e]; exact hv
    · rw [if_neg e]; exact h2 j (by omega)
  · show ∃ q, 1 ≤ q ∧ q ≤ 9 ∧ (if j = bn then r else br j) = nI q
    by_cases e : j = bn
    · rw [if_pos e]; exact bv_rk hr
    · rw [if_neg e]; exact h3 j (by omega)
  · have hp : 2 ^ (bn + 1) = 2 ^ bn + 2 ^ bn := by rw [Nat.pow_succ]; omega
    have hc : ∀ k, k < bn → bs k = upd bs bn v k := fun k hk => by
      show bs k = (if k = bn then v else bs k)
      rw [if_neg (by omega)]
    have hs : upd bs bn v bn = v := by
      show (if bn = bn then v else bs bn) = v
      rw [if_pos rfl]
    unfold bv_mx
    rw [bv_wi]
    by_cases e : t < 2 ^ bn
    · rw [if_neg (fun q => by omega), Nat.testBit_lt_two_pow e, if_neg (by decide), h4 t e]
      exact bv_wi_congr bn (fun k hk => ⟨hc k hk, rfl⟩)
    · obtain ⟨u, rfl⟩ : ∃ u, t = 2 ^ bn + u := ⟨t - 2 ^ bn, by omega⟩
      have hu : u < 2 ^ bn := by omega
      rw [if_pos ⟨by omega, by omega⟩, Nat.testBit_two_pow_add_eq, Nat.testBit_lt_two_pow hu, if_pos (show (!false) = true from rfl), hs, Nat.add_sub_cancel_left, h4 u hu]
      rw [bv_wi_congr (t := u) (u := 2 ^ bn + u) bn (fun k hk => ⟨hc k hk, (Nat.testBit_two_pow_add_gt hk u).symm⟩)]
theorem bv_sh16v {lv : Nat → Int32} {S d : Int32} {w : Nat} (hw : w < 16) : bv_sh lv S d 16 w = if bv_has S (nI w) = true then lv w + d else lv w := by
  unfold bv_sh
  by_cases c : bv_has S (nI w) = true
  · rw [if_pos ⟨hw, c⟩, if_pos c]
  · rw [if_neg (fun q => c q.2), if_neg c]
theorem bv_bf16v {lv : Nat → Int32} {S : Int32} {w : Nat} (hw : w < 16) : bv_bf lv S 16 w = if bv_has S (nI w) = true then 0 else lv w := by
  unfold bv_bf
  by_cases c : bv_has S (nI w) = true
  · rw [if_pos ⟨hw, c⟩, if_pos c]
  · rw [if_neg (fun q => c q.2), if_neg c]
theorem bv_lsub {a b : Nat} (h : b ≤ a) : nI a + -(nI b) = nI (a - b) := by rw [← Int32.sub_eq_add_neg]; exact bv_sub h
theorem bv_lsubf {a b f : Nat} (h : b ≤ a) : nI a + (nI f - nI b) = nI (a - b + f) := by
  rw [Int32.sub_eq_add_neg, Int32.add_comm (nI f), ← Int32.add_assoc, bv_lsub h, nI_add]
theorem bv_lv6 {M : Nat} {lv : Nat → Int32} (h : ∀ w, w < 16 → ∃ n, n ≤ M ∧ lv w = nI n) (hM : M ≤ 1000000) : ∀ w, w < 16 → ∃ n, n ≤ 1000000 ∧ lv w = nI n := fun w hw => by
  obtain ⟨n, hn, e⟩ := h w hw
  exact ⟨n, by omega, e⟩
theorem bv_lv_least {M : Nat} {lv : Nat → Int32} {S : Int32} (h : ∀ w, w < 16 → ∃ n, n ≤ M ∧ lv w = nI n) (hM : M ≤ 1000000) (hS : S &&& 65535 = S) (h0 : ¬ S = 0) : ∃ b, b ≤ M ∧ bv_ll lv S 16 = nI b ∧ (∃ w, w < 16 ∧ bv_has S (nI w) = true ∧ lv w = nI b) ∧ ∀ w, w < 16 → bv_has S (nI w) = true → ∀ n, n ≤ M → lv w = nI n → b ≤ n := by
  obtain ⟨⟨w0, hw0, hs0, e0⟩, hall⟩ := bv_ll_spec (bv_hl6 (bv_lv6 h hM)) 16 (Nat.le_refl _) (bv_some hS h0)
  obtain ⟨b, hb, eb⟩ := h w0 hw0
  refine ⟨b, hb, by rw [← e0, eb], ⟨w0, hw0, hs0, eb⟩, fun w hw hs n hn en => ?_⟩
  have h9 := hall w hw hs
  rw [← e0, eb, en] at h9
  exact (nI_leI (by omega) (by omega)).mp h9
theorem bv_lv_mono {M N : Nat} {lv : Nat → Int32} (h : bv_lvB M lv) (hN : M ≤ N) : bv_lvB N lv := ⟨fun w hw => by
  obtain ⟨n, hn, e⟩ := h.1 w hw
  exact ⟨n, by omega, e⟩, h.2⟩
theorem bv_lv_load {bn : Nat} {bs br lv : Nat → Int32} (hbr : ∀ j, j < bn → ∃ r, 1 ≤ r ∧ r ≤ 9 ∧ br j = nI r) : bv_lvB 9 (bv_loaded bs br bn lv) := by
  have hg : ∀ (w : Int32) (k : Nat), k ≤ bn → ∃ n, n ≤ 9 ∧ bv_gr bs br w k = nI n := by
    intro w k
    induction k with
    | zero => exact fun _ => ⟨0, by omega, rfl⟩
    | succ k ih =>
      intro hk
      obtain ⟨n, hn, e⟩ := ih (by omega)
      rw [bv_gr]
      split
      · exact ⟨n, hn, e⟩
      · obtain ⟨r, h1, h2, e2⟩ := hbr k (by omega)
        unfold bv_max
        split
        · exact ⟨r, h2, e2⟩
        · exact ⟨n, hn, e⟩
  have hl : ∀ w, w < 16 → ∃ n, n ≤ 9 ∧ bv_load bs br bn lv w = nI n := fun w hw => by
    unfold bv_load bv_put1
    rw [if_pos hw]
    exact hg (nI w) bn (Nat.le_refl _)
  obtain ⟨b, hb, eb, ⟨w0, hw0, hs0, e0⟩, hall⟩ := bv_lv_least hl (by omega) (S := 65535) (by decide) (by decide)
  unfold bv_loaded
  rw [eb]
  refine ⟨fun w hw => ?_, w0, hw0, ?_⟩
  · obtain ⟨n, hn, e⟩ := hl w hw
    rw [bv_sh16v hw, if_pos (bv_all16 w hw), e, bv_lsub (hall w hw (bv_all16 w hw) n hn e)]
    exact ⟨n - b, by omega, rfl⟩
  · rw [bv_sh16v hw0, if_pos (bv_all16 w0 hw0), e0, bv_lsub (Nat.le_refl _), Nat.sub_self]
    exact nI_0
theorem bv_lv_firm {M f : Nat} {lv : Nat → Int32} {S : Int32} (h : bv_lvB M lv) (hM : M ≤ 1000000) (hS : S &&& 65535 = S) (h0 : ¬ S = 0) (hf : f ≤ 9) : bv_lvB (M + 9) (bv_firm lv S (nI f)) := by
  obtain ⟨hl, -⟩ := h
  obtain ⟨b, hb, eb, ⟨w0, hw0, hs0, e0⟩, hall⟩ := bv_lv_least hl hM hS h0
  have hf1 : ∀ w, w < 16 → bv_has S (nI w) = true → ∀ n, n ≤ M → lv w = nI n → bv_firm1 lv S w = nI (n - b) := fun w hw hs n hn e => by
    unfold bv_firm1
    rw [bv_sh16v hw, if_pos hs, eb, e, bv_lsub (hall w hw hs n hn e)]
  have hf2 : ∀ w, w < 16 → ¬ bv_has S (nI w) = true → bv_firm1 lv S w = lv w := fun w hw hs => by
    unfold bv_firm1
    rw [bv_sh16v hw, if_neg hs]
  have hl1 : ∀ w, w < 16 → ∃ n, n ≤ M ∧ bv_firm1 lv S w = nI n := fun w hw => by
    obtain ⟨n, hn, e⟩ := hl w hw
    by_cases c : bv_has S (nI w) = true
    · exact ⟨n - b, by omega, hf1 w hw c n hn e⟩
    · exact ⟨n, hn, by rw [hf2 w hw c, e]⟩
  have hN : ∀ w, w < 16 → bv_has (bv_not S) (nI w) = true → ¬ bv_has S (nI w) = true := fun w hw q c => by
    rw [bv_has_not hS hw, c] at q
    exact absurd q (by decide)
  refine ⟨fun w hw => ?_, w0, hw0, ?_⟩
  · obtain ⟨n, hn, e⟩ := hl1 w hw
    unfold bv_firm
    rw [bv_sh16v hw]
    by_cases c : bv_has (bv_not S) (nI w) = true
    · rw [if_pos c]
      have hz : ¬ bv_not S = 0 := fun q => by
        rw [q, bv_has0 w hw] at c
        exact absurd c (by decide)
      obtain ⟨b2, hb2, eb2, -, hall2⟩ := bv_lv_least hl1 hM (bv_not16 S) hz
      rw [eb2, e, bv_lsubf (hall2 w hw c n hn e)]
      exact ⟨n - b2 + f, by omega, rfl⟩
    · rw [if_neg c]
      exact ⟨n, by omega, e⟩
  · unfold bv_firm
    rw [bv_sh16v hw0, if_neg (fun q => hN w0 hw0 q hs0), hf1 w0 hw0 hs0 b hb e0, Nat.sub_self]
    exact nI_0
theorem bv_lv_nat {M : Nat} {lv : Nat → Int32} {S : Int32} (h : bv_lvB M lv) (hM : M ≤ 1000000) (hS : S &&& 65535 = S) (h0 : ¬ S = 0) : bv_lvB (M + 1) (bv_nat lv S) := by
  obtain ⟨hl, -⟩ := h
  obtain ⟨b, hb, eb, ⟨w0, hw0, hs0, e0⟩, -⟩ := bv_lv_least hl hM hS h0
  unfold bv_nat
  refine ⟨fun w hw => ?_, w0, hw0, ?_⟩
  · rw [bv_bf16v hw]
    obtain ⟨n, hn, e⟩ := hl w hw
    by_cases c : bv_has (bv_mp lv S) (nI w) = true
    · rw [if_pos c]; exact ⟨0, by omega, nI_0.symm⟩
    · rw [if_neg c, bv_sh16v hw, if_pos (bv_all16 w hw), e, nI_1]; exact ⟨n + 1, by omega, rfl⟩
  · rw [bv_bf16v hw0, if_pos ((bv_mp_has hw0).mpr ⟨hs0, by rw [e0, eb]⟩)]
theorem bv_lv_doubt {M : Nat} {lv : Nat → Int32} {S : Int32} (h : bv_lvB M lv) (hM : M ≤ 1000000) (h0 : ¬ bv_not S = 0) : bv_lvB M (bv_doubt lv S) := by
  obtain ⟨hl, -⟩ := h
  obtain ⟨b, hb, eb, ⟨w0, hw0, hs0, e0⟩, -⟩ := bv_lv_least hl hM (bv_not16 S) h0
  unfold bv_doubt
  refine ⟨fun w hw => ?_, w0, hw0, ?_⟩
  · rw [bv_bf16v hw]
    obtain ⟨n, hn, e⟩ := hl w hw
    by_cases c : bv_has (bv_mp lv (bv_not S)) (nI w) = true
    · rw [if_pos c]; exact ⟨0, by omega, nI_0.symm⟩
    · rw [if_neg c, e]; exact ⟨n, hn, rfl⟩
  · rw [bv_bf16v hw0, if_pos ((bv_mp_has hw0).mpr ⟨hs0, by rw [e0, eb]⟩)]
theorem bv_lv_strict {M : Nat} {lv ks : Nat → Int32} {S : Int32} (h : bv_lvB M lv) (hM : M ≤ 1000000) : bv_lvB 16 (bv_strict lv ks S) := by
  rw [bv_strict_eq]
  obtain ⟨g, hg, hk⟩ := bv_keyN (S := S) (bv_lv6 h.1 hM)
  have hkl : ∀ w, w < 16 → 0 ≤ bv_key lv S w ∧ bv_key lv S w < 2147483647 := fun w hw => by
    obtain ⟨n, hn, -, e⟩ := hk w hw
    rw [e]
    split
    · exact ⟨nI_pos' (by omega), show nI n < nI 2147483647 from nI_lt (by omega) (by omega)⟩
    · exact ⟨nI_pos' (by omega), show nI (n + (g + 1)) < nI 2147483647 from nI_lt (by omega) (by omega)⟩
  obtain ⟨⟨w0, hw0, -, e0⟩, hall⟩ := bv_ll_spec hkl 16 (Nat.le_refl _) (S := 65535) ⟨0, by decide, bv_all16 0 (by decide)⟩
  refine ⟨fun w hw => ?_, w0, hw0, ?_⟩
  · unfold bv_ordr bv_put1
    rw [if_pos hw]
    exact ⟨_, bv_cd_le _ _ 16, rfl⟩
  · unfold bv_ordr bv_put1
    rw [if_pos hw0]
    show nI (bv_cd (bv_key lv S) (bv_key lv S w0) 16) = 0
    have h9 : bv_cd (bv_key lv S) (bv_key lv S w0) 16 = 0 := bv_cd_zero 16 (fun k hk2 => by rw [e0]; exact hall k hk2 (bv_all16 k hk2))
    rw [h9]
    exact nI_0
theorem bv_lv_learn {M : Nat} {lv ks : Nat → Int32} {wi fi S : Int32} (h : bv_lvB M lv) (hM : M ≤ 1000000) (hS : S &&& 65535 = S) (hw : 0 ≤ wi ∧ wi ≤ 3) (hf : wi = 0 → 0 ≤ fi ∧ fi ≤ 9) (hz : ¬ S = (if wi = 3 then 65535 else 0)) : bv_lvB (M + 20) (bv_learn lv ks wi.toNatClampNeg S fi) := by
  rcases bv_joined_cases hw with rfl | rfl | rfl | rfl
  · rw [show (0 : Int32).toNatClampNeg = 0 from by decide, bv_learn0]
    rw [if_neg (by decide)] at hz
    obtain ⟨f, hf9, rfl⟩ := bv_ix2 (n := 9) (by decide) (hf rfl).1 (hf rfl).2
    exact bv_lv_mono (bv_lv_firm h hM hS hz hf9) (by omega)
  · rw [show (1 : Int32).toNatClampNeg = 1 from by decide, bv_learn1]
    rw [if_neg (by decide)] at hz
    exact bv_lv_mono (bv_lv_nat h hM hS hz) (by omega)
  · rw [show (2 : Int32).toNatClampNeg = 2 from by decide, bv_learn2]
    exact bv_lv_mono (bv_lv_strict h hM) (by omega)
  · rw [show (3 : Int32).toNatClampNeg = 3 from by decide, bv_learn3]
    rw [if_pos rfl] at hz
    exact bv_lv_mono (bv_lv_doubt h hM (bv_notnz hS hz)) (by omega)
def bv_Inv (n pn : Nat) (pf : Nat → Int32) (bn : Nat) (bs br mt lv : Nat → Int32) : Prop := bv_pfB pn pf ∧ bv_bsB bn bs br mt ∧ bv_lvB (20 * n + 20) lv
theorem bv_I_0 : bv_Inv 0 0 (fun _ => 0) 0 (fun _ => 0) (fun _ => 0) (upd (fun _ => 0) 0 65535) (fun _ => 0) := by
  refine ⟨⟨by decide, fun j hj => absurd hj (Nat.not_lt_zero _)⟩, ⟨by decide, fun j hj => absurd hj (Nat.not_lt_zero _), fun j hj => absurd hj (Nat.not_lt_zero _), fun t ht => ?_⟩, fun w hw => ⟨0, by omega, nI_0.symm⟩, 0, by decide, rfl⟩
  have ht0 : t = 0 := Nat.lt_one_iff.mp ht
  subst ht0
  rfl
