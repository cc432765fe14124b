/-! What is learned is held true. -/
theorem bv_ext16 {a b : Int32} (ha : a &&& 65535 = a) (hb : b &&& 65535 = b) (h : ∀ w, w < 16 → (bv_has a (nI w) = true ↔ bv_has b (nI w) = true)) : a = b := by
  obtain ⟨n, hn, rfl⟩ := bv_16 ha
  obtain ⟨m9, hm, rfl⟩ := bv_16 hb
  have e : n = m9 := by
    apply Nat.eq_of_testBit_eq
    intro i
    by_cases hi : i < 16
    · have h1 := h i hi
      rw [bv_has_nI (by omega) (by omega), bv_has_nI (by omega) (by omega)] at h1
      cases q1 : n.testBit i <;> cases q2 : m9.testBit i <;> simp_all
    · have hp : 2 ^ 16 ≤ 2 ^ i := Nat.pow_le_pow_right (by decide) (by omega)
      rw [Nat.testBit_lt_two_pow (by omega), Nat.testBit_lt_two_pow (by omega)]
  rw [e]
theorem bv_open16 (lv : Nat → Int32) : bv_open lv &&& 65535 = bv_open lv := bv_wa16 lv 65535 0
theorem bv_mp16 (lv : Nat → Int32) (S : Int32) : bv_mp lv S &&& 65535 = bv_mp lv S := bv_wa16 lv S _
theorem bv_has_open {lv : Nat → Int32} {w : Nat} (hw : w < 16) : bv_has (bv_open lv) (nI w) = true ↔ lv w = 0 := by
  unfold bv_open
  rw [bv_has_wa 16 (Nat.le_refl _) w hw]
  exact ⟨fun z => z.2.2, fun z => ⟨hw, bv_all16 w hw, z⟩⟩
theorem bv_open_is {lv lv' : Nat → Int32} {S : Int32} (h : ∀ w, w < 16 → (lv' w = 0 ↔ bv_has S (nI w) = true ∧ lv w = bv_ll lv S 16)) : bv_open lv' = bv_mp lv S := bv_ext16 (bv_open16 _) (bv_mp16 _ _) (fun w hw => by rw [bv_has_open hw, bv_mp_has hw, h w hw])
theorem bv_A_firm {M f : Nat} {lv : Nat → Int32} {S : Int32} (h : bv_lvB M lv) (hM : M ≤ 1000000) (hS : S &&& 65535 = S) (h0 : ¬ S = 0) (hf0 : 1 ≤ f) (hf : f ≤ 9) : bv_open (bv_firm lv S (nI f)) = bv_mp lv S := by
  refine bv_open_is (fun w hw => ?_)
  obtain ⟨hl, -⟩ := h
  obtain ⟨b, hb, eb, -, hall⟩ := bv_lv_least hl hM hS h0
  have hf1 : ∀ w, w < 16 → bv_has S (nI w) = true → ∀ n, n ≤ M → lv w = nI n → bv_firm1 lv S w = nI (n - b) := fun w hw hs n hn e => by
    unfold bv_firm1
    rw [bv_sh16v hw, if_pos hs, eb, e, bv_lsub (hall w hw hs n hn e)]
  have hf2 : ∀ w, w < 16 → ¬ bv_has S (nI w) = true → bv_firm1 lv S w = lv w := fun w hw hs => by
    unfold bv_firm1
    rw [bv_sh16v hw, if_neg hs]
  have hl1 : ∀ w, w < 16 → ∃ n, n ≤ M ∧ bv_firm1 lv S w = nI n := fun w hw => by
    obtain ⟨n, hn, e⟩ := hl w hw
    by_cases c : bv_has S (nI w) = true
    · exact ⟨n - b, by omega, hf1 w hw c n hn e⟩
    · exact ⟨n, hn, by rw [hf2 w hw c, e]⟩
  unfold bv_firm
  rw [bv_sh16v hw]
  by_cases c : bv_has S (nI w) = true
  · have hN : ¬ bv_has (bv_not S) (nI w) = true := by rw [bv_has_not hS hw, c]; decide
    obtain ⟨n, hn, e⟩ := hl w hw
    have hbn := hall w hw c n hn e
    rw [if_neg hN, hf1 w hw c n hn e, eb, e]
    constructor
    · intro z
      have h9 := (nI_eq (b := 0) (by omega) (by decide)).mp z
      exact ⟨c, by rw [show n = b by omega]⟩
    · intro z
      have h9 := (nI_eq (by omega) (by omega)).mp z.2
      rw [show n - b = 0 by omega]
      exact nI_0
  · have hN : bv_has (bv_not S) (nI w) = true := by
      rw [bv_has_not hS hw]
      cases q : bv_has S (nI w) with
      | true => exact absurd q c
      | false => rfl
    have hz : ¬ bv_not S = 0 := fun q => by
      rw [q, bv_has0 w hw] at hN
      exact absurd hN (by decide)
    obtain ⟨n, hn, e⟩ := hl1 w hw
    obtain ⟨b2, hb2, eb2, -, hall2⟩ := bv_lv_least hl1 hM (bv_not16 S) hz
    have hbn := hall2 w hw hN n hn e
    rw [if_pos hN, eb2, e, bv_lsubf hbn]
    constructor
    · intro z
      have h9 := (nI_eq (b := 0) (by omega) (by decide)).mp z
      omega
    · intro z
      exact absurd z.1 c
theorem bv_A_nat {M : Nat} {lv : Nat → Int32} {S : Int32} (h : bv_lvB M lv) (hM : M ≤ 1000000) : bv_open (bv_nat lv S) = bv_mp lv S := by
  refine bv_open_is (fun w hw => ?_)
  obtain ⟨n, hn, e⟩ := h.1 w hw
  unfold bv_nat
  rw [bv_bf16v hw, ← bv_mp_has hw]
  by_cases c : bv_has (bv_mp lv S) (nI w) = true
  · rw [if_pos c]; exact ⟨fun _ => c, fun _ => rfl⟩
  · rw [if_neg c, bv_sh16v hw, if_pos (bv_all16 w hw), e, nI_1]
    exact ⟨fun z => absurd ((nI_eq (b := 0) (by omega) (by decide)).mp z) (by omega), fun z => absurd z c⟩
theorem bv_cd_pos {f : Nat → Int32} {x : Int32} : ∀ n, (∃ k, k < n ∧ f k < x) → 0 < bv_cd f x n
  | 0, h => absurd h.choose_spec.1 (Nat.not_lt_zero _)
  | n + 1, h => by
    rw [bv_cd]
    by_cases hs : ∃ k, k < n ∧ f k < x
    · have ih := bv_cd_pos n hs
      split <;> omega
    · obtain ⟨k, hk, hx⟩ := h
      have e : k = n := by
        by_cases e : k = n
        · exact e
        · exact absurd ⟨k, by omega, hx⟩ hs
      subst e
      rw [if_pos ⟨hx, bv_fst_iff.mpr (fun j hj ej => hs ⟨j, hj, by rw [ej]; exact hx⟩)⟩]
      exact Nat.succ_pos _
theorem bv_A_strict {M : Nat} {lv ks : Nat → Int32} {S : Int32} (h : bv_lvB M lv) (hM : M ≤ 1000000) (hS : S &&& 65535 = S) (h0 : ¬ S = 0) : bv_open (bv_strict lv ks S) = bv_mp lv S := by
  refine bv_open_is (fun w hw => ?_)
  rw [bv_strict_eq]
  obtain ⟨g, hg, hk⟩ := bv_keyN (S := S) (bv_lv6 h.1 hM)
  obtain ⟨b, hb, eb, ⟨w0, hw0, hs0, e0⟩, hall⟩ := bv_lv_least h.1 hM hS h0
  obtain ⟨n0, hn0, en0, k0⟩ := hk w0 hw0
  rw [if_pos hs0] at k0
  have hb0 : n0 = b := (nI_eq (by omega) (by omega)).mp (by rw [← en0, ← e0])
  obtain ⟨n, hn, en, kw⟩ := hk w hw
  have hcd := bv_cd_le (bv_key lv S) (bv_key lv S w) 16
  unfold bv_ordr bv_put1
  rw [if_pos hw, eb]
  show nI (bv_cd (bv_key lv S) (bv_key lv S w) 16) = 0 ↔ _
  constructor
  · intro z
    have hz : bv_cd (bv_key lv S) (bv_key lv S w) 16 = 0 := (nI_eq (b := 0) (by omega) (by decide)).mp z
    have hle : ¬ bv_key lv S w0 < bv_key lv S w := fun q => by
      have := bv_cd_pos 16 ⟨w0, hw0, q⟩
      omega
    rw [k0, kw] at hle
    by_cases c : bv_has S (nI w) = true
    · rw [if_pos c] at hle
      have h1 : ¬ n0 < n := fun q => hle (nI_lt q (by omega))
      have h2 := hall w hw c n (by
        obtain ⟨n3, hn3, en3⟩ := h.1 w hw
        have := (nI_eq (by omega) (by omega)).mp (en3.symm.trans en)
        omega) en
      exact ⟨c, by rw [en, show n = b by omega]⟩
    · rw [if_neg c] at hle
      exact absurd (nI_lt (show n0 < n + (g + 1) by omega) (by omega)) hle
  · rintro ⟨c, e⟩
    rw [if_pos c] at kw
    have hnb : n = b := (nI_eq (by omega) (by omega)).mp (by rw [← en, ← e])
    have h9 : bv_cd (bv_key lv S) (bv_key lv S w) 16 = 0 := bv_cd_zero 16 (fun k hk2 => by
      obtain ⟨n3, hn3, en3, kk⟩ := hk k hk2
      rw [kw, kk]
      by_cases c3 : bv_has S (nI k) = true
      · rw [if_pos c3]
        have h2 := hall k hk2 c3 n3 (by
          obtain ⟨n4, hn4, en4⟩ := h.1 k hk2
          have := (nI_eq (by omega) (by omega)).mp (en4.symm.trans en3)
          omega) en3
        exact nI_le (by omega) (by omega)
      · rw [if_neg c3]
        exact nI_le (by omega) (by omega))
    rw [h9]
    exact nI_0
/-- what is possible then is what was most plausible within the sentence -/
theorem bv_T8 {M wy f : Nat} {lv ks : Nat → Int32} {S : Int32} (h : bv_lvB M lv) (hM : M ≤ 1000000) (hS : S &&& 65535 = S) (h0 : ¬ S = 0) (hwy : wy < 3) (hf0 : 1 ≤ f) (hf : f ≤ 9) : bv_open (bv_learn lv ks wy S (nI f)) = bv_mp lv S := by
  rcases (show wy = 0 ∨ wy = 1 ∨ wy = 2 by omega) with rfl | rfl | rfl
  · rw [bv_learn0]; exact bv_A_firm h hM hS h0 hf0 hf
  · rw [bv_learn1]; exact bv_A_nat h hM
  · rw [bv_learn2]; exact bv_A_strict h hM hS h0
theorem bv_has_and {a b : Int32} (ha : a &&& 65535 = a) (hb : b &&& 65535 = b) {w : Nat} (hw : w < 16) : bv_has (a &&& b) (nI w) = (bv_has a (nI w) && bv_has b (nI w)) := by
  obtain ⟨n, hn, rfl⟩ := bv_16 ha
  obtain ⟨m9, hm, rfl⟩ := bv_16 hb
  have h1 : n &&& m9 ≤ n := Nat.and_le_left
  rw [bv_nIa, bv_has_nI (by omega) (by omega), bv_has_nI (by omega) (by omega), bv_has_nI (by omega) (by omega), Nat.testBit_and]
theorem bv_U1 {lv : Nat → Int32} {S : Int32} (hS : S &&& 65535 = S) : bv_mp lv S &&& (S ^^^ (-1)) = 0 := bv_ext16 (bv_and16 (bv_mp16 _ _)) (by decide) (fun w hw => by
  rw [bv_has_less (bv_mp16 _ _) hS hw, bv_has0 w hw]
  cases q : bv_has (bv_mp lv S) (nI w) with
  | false => exact ⟨fun z => (by rw [Bool.false_and] at z; exact z), fun z => absurd z (by decide)⟩
  | true =>
    rw [((bv_mp_has hw).mp q).1]
    exact ⟨fun z => absurd z (by decide), fun z => absurd z (by decide)⟩)
theorem bv_U2 {M : Nat} {lv : Nat → Int32} {S : Int32} (h : bv_lvB M lv) (hM : M ≤ 1000000) (hS : S &&& 65535 = S) (h0 : ¬ S = 0) : ¬ bv_mp lv S = 0 := by
  intro z
  obtain ⟨b, hb, eb, ⟨w0, hw0, hs0, e0⟩, hall⟩ := bv_lv_least h.1 hM hS h0
  have h1 : bv_has (bv_mp lv S) (nI w0) = true := (bv_mp_has hw0).mpr ⟨hs0, by rw [e0, eb]⟩
  rw [z, bv_has0 w0 hw0] at h1
  cases h1
theorem bv_U3 {M : Nat} {lv : Nat → Int32} {S : Int32} (h : bv_lvB M lv) (hM : M ≤ 1000000) (hS : S &&& 65535 = S) (hx : ¬ bv_open lv &&& S = 0) : bv_mp lv S = bv_open lv &&& S := by
  have h16 : (bv_open lv &&& S) &&& 65535 = bv_open lv &&& S := bv_and16 (bv_open16 lv)
  obtain ⟨w1, hw1, hs1⟩ := bv_some h16 hx
  rw [bv_has_and (bv_open16 lv) hS hw1, Bool.and_eq_true, bv_has_open hw1] at hs1
  have h0 : ¬ S = 0 := fun z => by
    rw [z, bv_has0 w1 hw1] at hs1
    exact absurd hs1.2 (by decide)
  obtain ⟨b, hb, eb, -, hall⟩ := bv_lv_least h.1 hM hS h0
  have hb0 := hall w1 hw1 hs1.2 0 (by omega) hs1.1
  refine bv_ext16 (bv_mp16 _ _) h16 (fun w hw => ?_)
  rw [bv_mp_has hw, bv_has_and (bv_open16 lv) hS hw, Bool.and_eq_true, bv_has_open hw, eb, show b = 0 by omega]
  exact ⟨fun z => ⟨z.2, z.1⟩, fun z => ⟨z.2, z.1⟩⟩
theorem bv_U4 {lv : Nat → Int32} {S r : Int32} : bv_mp lv S &&& bv_not r = bv_mp lv S &&& (r ^^^ (-1)) := by
  unfold bv_not
  rw [← Int32.and_assoc, bv_mp16]
theorem bv_V1 {lv : Nat → Int32} {S : Int32} : bv_open (bv_doubt lv S) &&& bv_open lv = bv_open lv := bv_ext16 (bv_and16 (bv_open16 _)) (bv_open16 _) (fun w hw => by
  rw [bv_has_and (bv_open16 _) (bv_open16 _) hw, Bool.and_eq_true, bv_has_open hw, bv_has_open hw]
  refine ⟨fun z => z.2, fun z => ⟨?_, z⟩⟩
  unfold bv_doubt
  rw [bv_bf16v hw]
  split
  · rfl
  · exact z)
theorem bv_V2 {M : Nat} {lv : Nat → Int32} {S : Int32} (h : bv_lvB M lv) (hM : M ≤ 1000000) (hS : S &&& 65535 = S) (h0 : ¬ S = 65535) : ¬ bv_open (bv_doubt lv S) &&& (S ^^^ (-1)) = 0 := by
  intro z
  obtain ⟨b, hb, eb, ⟨w0, hw0, hs0, e0⟩, hall⟩ := bv_lv_least h.1 hM (bv_not16 S) (bv_notnz hS h0)
  have h1 : bv_has (bv_open (bv_doubt lv S) &&& (S ^^^ (-1))) (nI w0) = true := by
    rw [bv_has_less (bv_open16 _) hS hw0, Bool.and_eq_true, bv_has_open hw0]
    refine ⟨?_, by rw [← bv_has_not hS hw0]; exact hs0⟩
    unfold bv_doubt
    rw [bv_bf16v hw0, if_pos ((bv_mp_has hw0).mpr ⟨hs0, by rw [e0, eb]⟩)]
  rw [z, bv_has0 w0 hw0] at h1
  cases h1

