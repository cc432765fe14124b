/-! Counting different numbers; taking out the least ones again and again. -/
theorem bv_irr (x : Int32) : ¬ x < x := fun z => Int32.lt_irrefl z
theorem bv_all_iff {f : Nat → Bool} : ∀ {n : Nat}, bv_all f n = true ↔ ∀ k, k < n → f k = true
  | 0 => ⟨fun _ k hk => absurd hk (Nat.not_lt_zero _), fun _ => rfl⟩
  | n + 1 => by
    rw [bv_all, Bool.and_eq_true, bv_all_iff]
    constructor
    · intro h k hk
      by_cases e : k = n
      · rw [e]; exact h.2
      · exact h.1 k (by omega)
    · intro h
      exact ⟨fun k hk => h k (by omega), h n (Nat.lt_succ_self _)⟩
theorem bv_fst_iff {f : Nat → Int32} {n : Nat} : bv_fst f n = true ↔ ∀ k, k < n → f k ≠ f n := by
  unfold bv_fst
  rw [bv_all_iff]
  constructor
  · intro h k hk e
    have := h k hk
    rw [decide_eq_true e] at this
    exact absurd this (by decide)
  · intro h k hk
    rw [decide_eq_false (h k hk)]; rfl
theorem bv_fst_congr {f g : Nat → Int32} {n : Nat} (h : ∀ k, k ≤ n → f k = g k) : bv_fst f n = bv_fst g n := by
  have : bv_fst f n = true ↔ bv_fst g n = true := by
    rw [bv_fst_iff, bv_fst_iff]
    constructor
    · intro q k hk; rw [← h k (by omega), ← h n (Nat.le_refl _)]; exact q k hk
    · intro q k hk; rw [h k (by omega), h n (Nat.le_refl _)]; exact q k hk
  cases h1 : bv_fst f n <;> cases h2 : bv_fst g n <;> simp_all
theorem bv_cd_congr {f g : Nat → Int32} {x : Int32} : ∀ n, (∀ k, k < n → f k = g k) → bv_cd f x n = bv_cd g x n
  | 0, _ => rfl
  | n + 1, h => by
    rw [bv_cd, bv_cd, bv_cd_congr n (fun k hk => h k (by omega)), h n (Nat.lt_succ_self _), bv_fst_congr (fun k hk => h k (by omega))]
theorem bv_cd_zero {f : Nat → Int32} {x : Int32} : ∀ n, (∀ k, k < n → x ≤ f k) → bv_cd f x n = 0
  | 0, _ => rfl
  | n + 1, h => by
    rw [bv_cd, if_neg (fun q => absurd q.1 (Int32.not_lt.mpr (h n (Nat.lt_succ_self _))))]
    exact bv_cd_zero n (fun k hk => h k (by omega))
theorem bv_cd_jump {f : Nat → Int32} {M x : Int32} (hMx : M < x) : ∀ n, (∀ k, k < n → f k ≤ M ∨ x ≤ f k) → ((∃ j, j < n ∧ f j = M) → bv_cd f x n = bv_cd f M n + 1) ∧ ((¬ ∃ j, j < n ∧ f j = M) → bv_cd f x n = bv_cd f M n)
  | 0, _ => ⟨fun ⟨j, hj, _⟩ => absurd hj (Nat.not_lt_zero _), fun _ => rfl⟩
  | n + 1, h => by
    obtain ⟨h1, h2⟩ := bv_cd_jump hMx n (fun k hk => h k (by omega))
    rw [bv_cd, bv_cd]
    rcases h n (Nat.lt_succ_self _) with hn | hn
    · by_cases e : f n = M
      · have hnx : f n < x := by rw [e]; exact hMx
        have hnM : ¬ f n < M := by rw [e]; exact bv_irr _
        rw [if_neg (show ¬ (f n < M ∧ bv_fst f n = true) from fun q => hnM q.1)]
        refine ⟨fun _ => ?_, fun q => absurd ⟨n, Nat.lt_succ_self _, e⟩ q⟩
        by_cases hf : bv_fst f n = true
        · rw [if_pos ⟨hnx, hf⟩, h2]
          rintro ⟨j, hj, ej⟩
          exact bv_fst_iff.mp hf j hj (by rw [ej, e])
        · rw [if_neg (fun q => hf q.2), h1]
          apply Classical.byContradiction
          intro q
          exact hf (bv_fst_iff.mpr (fun k hk ek => q ⟨k, hk, by rw [ek, e]⟩))
      · have hnM : f n < M := Int32.lt_of_le_of_ne hn e
        have hnx : f n < x := Int32.lt_trans hnM hMx
        have hex : (∃ j, j < n + 1 ∧ f j = M) ↔ ∃ j, j < n ∧ f j = M := by
          constructor
          · rintro ⟨j, hj, ej⟩
            have : j ≠ n := fun q => e (by rw [← q]; exact ej)
            exact ⟨j, by omega, ej⟩
          · rintro ⟨j, hj, ej⟩; exact ⟨j, by omega, ej⟩
        rw [hex]
        by_cases hf : bv_fst f n = true
        · rw [if_pos ⟨hnx, hf⟩, if_pos ⟨hnM, hf⟩]
          exact ⟨fun q => by rw [h1 q], fun q => by rw [h2 q]⟩
        · rw [if_neg (fun q => hf q.2), if_neg (fun q => hf q.2)]
          exact ⟨h1, h2⟩
    · have hnx : ¬ f n < x := Int32.not_lt.mpr hn
      have hnM : ¬ f n < M := fun q => hnx (Int32.lt_trans q hMx)
      have e : f n ≠ M := fun q => hnx (by rw [q]; exact hMx)
      have hex : (∃ j, j < n + 1 ∧ f j = M) ↔ ∃ j, j < n ∧ f j = M := by
        constructor
        · rintro ⟨j, hj, ej⟩
          have : j ≠ n := fun q => e (by rw [← q]; exact ej)
          exact ⟨j, by omega, ej⟩
        · rintro ⟨j, hj, ej⟩; exact ⟨j, by omega, ej⟩
      rw [hex, if_neg (fun q => hnx q.1), if_neg (fun q => hnM q.1)]
      exact ⟨h1, h2⟩
/-- U has been taken out, nx is the next number, f holds the numbers given -/
def bv_ex (key : Nat → Int32) (U : Nat → Prop) (nx : Nat) (f : Nat → Int32) : Prop := (∀ w, w < 16 → U w → f w = nI (bv_cd key (key w) 16)) ∧ (∀ w v, w < 16 → v < 16 → U w → ¬ U v → key w < key v) ∧ (∀ x, (∀ w, w < 16 → U w → key w < x) → (∀ v, v < 16 → ¬ U v → x ≤ key v) → bv_cd key x 16 = nx)
theorem bv_ex_0 {key f : Nat → Int32} {U : Nat → Prop} (h : ∀ w, w < 16 → ¬ U w) : bv_ex key U 0 f := ⟨fun w hw q => absurd q (h w hw), fun w v hw _ q => absurd q (h w hw), fun x _ hx => bv_cd_zero 16 (fun k hk => hx k hk (h k hk))⟩
theorem bv_ex_iff {key f : Nat → Int32} {U V : Nat → Prop} {nx : Nat} (h : ∀ w, w < 16 → (U w ↔ V w)) (hx : bv_ex key U nx f) : bv_ex key V nx f := ⟨fun w hw q => hx.1 w hw ((h w hw).mpr q), fun w v hw hv q1 q2 => hx.2.1 w v hw hv ((h w hw).mpr q1) (fun q => q2 ((h v hv).mp q)), fun x h1 h2 => hx.2.2 x (fun w hw q => h1 w hw ((h w hw).mp q)) (fun v hv q => h2 v hv (fun z => q ((h v hv).mpr z)))⟩
theorem bv_ex_step {key f f' : Nat → Int32} {U : Nat → Prop} {nx : Nat} {M : Int32} (h : bv_ex key U nx f) (hM : ∀ v, v < 16 → ¬ U v → M ≤ key v) {v0 : Nat} (hv0 : v0 < 16) (hU0 : ¬ U v0) (hk0 : key v0 = M) (hf : ∀ w, w < 16 → U w → f' w = f w) (hf2 : ∀ w, w < 16 → ¬ U w → key w = M → f' w = nI nx) : bv_ex key (fun w => U w ∨ key w = M) (nx + 1) f' := by
  obtain ⟨h1, h2, h3⟩ := h
  have hlt : ∀ w, w < 16 → U w → key w < M := fun w hw q => by rw [← hk0]; exact h2 w v0 hw hv0 q hU0
  have hD : bv_cd key M 16 = nx := h3 M hlt hM
  refine ⟨fun w hw q => ?_, fun w v hw hv q1 q2 => ?_, fun x hx1 hx2 => ?_⟩
  · by_cases u : U w
    · rw [hf w hw u]; exact h1 w hw u
    · rcases q with q | q
      · exact absurd q u
      · rw [hf2 w hw u q, q, hD]
  · have hv1 : ¬ U v := fun z => q2 (Or.inl z)
    have hv2 : key v ≠ M := fun z => q2 (Or.inr z)
    rcases q1 with q | q
    · exact h2 w v hw hv q hv1
    · rw [q]; exact Int32.lt_of_le_of_ne (hM v hv hv1) (fun z => hv2 z.symm)
  · have hMx : M < x := by rw [← hk0]; exact hx1 v0 hv0 (Or.inr hk0)
    have hj := (bv_cd_jump hMx 16 (f := key) (fun k hk => ?_)).1 ⟨v0, hv0, hk0⟩
    · rw [hj, hD]
    · by_cases u : U k ∨ key k = M
      · rcases u with u | u
        · exact Or.inl (Int32.le_of_lt (hlt k hk u))
        · exact Or.inl (by rw [u]; exact Int32.le_refl _)
      · exact Or.inr (hx2 k hk u)
/-- a set without some of its worlds -/
theorem bv_has_less {S N : Int32} (hS : S &&& 65535 = S) (hN : N &&& 65535 = N) {w : Nat} (hw : w < 16) : bv_has (S &&& (N ^^^ (-1))) (nI w) = (bv_has S (nI w) && !bv_has N (nI w)) := by
  obtain ⟨a, ha, rfl⟩ := bv_16 hS
  obtain ⟨b, hb, rfl⟩ := bv_16 hN
  have e1 : nI a &&& (nI b ^^^ (-1)) = (nI a ||| nI b) ^^^ nI b := by
    apply Int32.toBitVec_inj.mp
    rw [Int32.toBitVec_xor, Int32.toBitVec_and, Int32.toBitVec_or, Int32.toBitVec_xor, bv_m1b]
    apply BitVec.eq_of_getElem_eq
    intro i hi
    simp only [BitVec.getElem_xor, BitVec.getElem_and, BitVec.getElem_or, BitVec.getElem_allOnes]
    cases (nI a).toBitVec[i] <;> cases (nI b).toBitVec[i] <;> rfl
  have l1 : a ||| b < 2 ^ 16 := Nat.or_lt_two_pow ha hb
  have l2 : (a ||| b) ^^^ b < 2 ^ 16 := Nat.xor_lt_two_pow l1 hb
  rw [e1, bv_nIo, bv_nIx, bv_has_nI (by omega) (by omega), bv_has_nI (by omega) (by omega), bv_has_nI (by omega) (by omega), Nat.testBit_xor, Nat.testBit_or]
  cases a.testBit w <;> cases b.testBit w <;> rfl
theorem bv_less16 {S N : Int32} (hS : S &&& 65535 = S) : (S &&& (N ^^^ (-1))) &&& 65535 = S &&& (N ^^^ (-1)) := by rw [bv_aac, hS]
theorem bv_has_wa {lv : Nat → Int32} {S x : Int32} : ∀ k, k ≤ 16 → ∀ w, w < 16 → (bv_has (bv_wa lv S x k) (nI w) = true ↔ w < k ∧ bv_has S (nI w) = true ∧ lv w = x)
  | 0, _, w, hw => by
    rw [show bv_wa lv S x 0 = 0 from rfl, bv_has0 w hw]
    exact ⟨fun h => absurd h (by decide), fun h => absurd h.1 (Nat.not_lt_zero _)⟩
  | k + 1, hk, w, hw => by
    have ih := bv_has_wa k (by omega) w hw (lv := lv) (S := S) (x := x)
    obtain ⟨e1, l1⟩ := bv_wa_nI lv S x k (by omega)
    have l2 : 2 ^ k ≤ 2 ^ 16 := Nat.pow_le_pow_right (by decide) (by omega)
    rw [bv_wa]
    by_cases c : bv_has S (nI k) = true ∧ lv k = x
    · rw [if_pos c, e1, bv_obit (by omega)]
      rw [e1, bv_has_nI (by omega) (by omega)] at ih
      have l3 : bv_waN lv S x k ||| 2 ^ k < 2 ^ 16 := Nat.or_lt_two_pow (by omega) (Nat.pow_lt_pow_right (by decide) (by omega))
      rw [bv_has_nI (by omega) (by omega), Nat.testBit_or, Nat.testBit_two_pow, Bool.or_eq_true, ih]
      constructor
      · rintro (h | h)
        · exact ⟨by omega, h.2⟩
        · have h := of_decide_eq_true h; subst h; exact ⟨by omega, c⟩
      · rintro ⟨h1, h2⟩
        by_cases e : k = w
        · exact Or.inr (decide_eq_true e)
        · exact Or.inl ⟨by omega, h2⟩
    · rw [if_neg c, ih]
      constructor
      · rintro ⟨h1, h2⟩; exact ⟨by omega, h2⟩
      · rintro ⟨h1, h2⟩
        refine ⟨?_, h2⟩
        by_cases e : w = k
        · subst e; exact absurd h2 c
        · omega
/-- the least level of some worlds is the level of one, and none has a smaller one -/
theorem bv_ll_spec {lv : Nat → Int32} {S : Int32} (h : ∀ w, w < 16 → 0 ≤ lv w ∧ lv w < 2147483647) : ∀ k, k ≤ 16 → (∃ w, w < k ∧ bv_has S (nI w) = true) → (∃ w, w < k ∧ bv_has S (nI w) = true ∧ lv w = bv_ll lv S k) ∧ ∀ w, w < k → bv_has S (nI w) = true → bv_ll lv S k ≤ lv w
  | 0, _, hx => absurd hx.choose_spec.1 (Nat.not_lt_zero _)
  | k + 1, hk, hx => by
    have hnn : (¬ ∃ w, w < k ∧ bv_has S (nI w) = true) → bv_ll lv S k = -1 := by
      intro q
      rcases bv_ls_ll h k (by omega) (S := S) with h1 | h1
      · exact h1.1
      · exfalso
        have : ∀ j, j ≤ k → bv_ll lv S j = -1 := by
          intro j
          induction j with
          | zero => intro _; rfl
          | succ j ihj =>
            intro hj
            rw [bv_ll, if_neg (fun z => q ⟨j, by omega, z.1⟩)]
            exact ihj (by omega)
        rw [this k (Nat.le_refl _)] at h1
        exact absurd h1.1 (by decide)
    rw [bv_ll]
    by_cases hs : ∃ w, w < k ∧ bv_has S (nI w) = true
    · obtain ⟨⟨w0, hw0, hs0, e0⟩, hall⟩ := bv_ll_spec h k (by omega) hs
      have hpos : ¬ bv_ll lv S k < 0 := by rw [← e0]; exact Int32.not_lt.mpr (h w0 (by omega)).1
      by_cases c : bv_has S (nI k) = true ∧ (bv_ll lv S k < 0 ∨ lv k < bv_ll lv S k)
      · rw [if_pos c]
        have hlt := c.2.resolve_left hpos
        refine ⟨⟨k, Nat.lt_succ_self _, c.1, rfl⟩, fun w hw hh => ?_⟩
        by_cases e : w = k
        · rw [e]; exact Int32.le_refl _
        · exact Int32.le_of_lt (Int32.lt_of_lt_of_le hlt (hall w (by omega) hh))
      · rw [if_neg c]
        refine ⟨⟨w0, by omega, hs0, e0⟩, fun w hw hh => ?_⟩
        by_cases e : w = k
        · subst e
          exact Int32.not_lt.mp (fun q => c ⟨hh, Or.inr q⟩)
        · exact hall w (by omega) hh
    · have e1 := hnn hs
      have hk2 : bv_has S (nI k) = true := by
        obtain ⟨w, hw, hh⟩ := hx
        by_cases e : w = k
        · rw [← e]; exact hh
        · exact absurd ⟨w, by omega, hh⟩ hs
      rw [if_pos ⟨hk2, Or.inl (by rw [e1]; decide)⟩]
      refine ⟨⟨k, Nat.lt_succ_self _, hk2, rfl⟩, fun w hw hh => ?_⟩
      by_cases e : w = k
      · rw [e]; exact Int32.le_refl _
      · exact absurd ⟨w, by omega, hh⟩ hs
theorem bv_cnt_lt {f g : Nat → Bool} : ∀ n, (∀ k, k < n → g k = true → f k = true) → (∃ k, k < n ∧ f k = true ∧ g k = false) → bv_cnt g n < bv_cnt f n
  | 0, _, hx => absurd hx.choose_spec.1 (Nat.not_lt_zero _)
  | n + 1, h, hx => by
    have hle : ∀ m, m ≤ n → bv_cnt g m ≤ bv_cnt f m := by
      intro m
      induction m with
      | zero => intro _; exact Nat.le_refl _
      | succ m ihm =>
        intro hm
        have := ihm (by omega)
        rw [bv_cnt, bv_cnt]
        cases hg : g m with
        | true => rw [h m (by omega) hg]; simp; exact this
        | false => cases hf : f m <;> simp <;> omega
    rw [bv_cnt, bv_cnt]
    by_cases hn : f n = true ∧ g n = false
    · rw [hn.1, hn.2]
      have := hle n (Nat.le_refl _)
      simp; omega
    · have : bv_cnt g n < bv_cnt f n := bv_cnt_lt n (fun k hk => h k (by omega)) (by
        obtain ⟨k, hk, h1, h2⟩ := hx
        refine ⟨k, ?_, h1, h2⟩
        by_cases e : k = n
        · subst e; exact absurd ⟨h1, h2⟩ hn
        · omega)
      cases hg : g n with
      | true => rw [h n (Nat.lt_succ_self _) hg]; simp; omega
      | false => cases hf : f n <;> simp <;> omega

