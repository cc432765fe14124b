/-! What the law compares. -/
theorem bv_ge16 {g : Int32} (h : g &&& 65535 = g) : 0 ≤ g := Int32.not_lt.mp (bv_nn16 h)
theorem bv_cnt_s {f : Nat → Bool} {bn : Nat} (hn : bn ≤ 10) : bv_cnt f (2 ^ bn) < 2 ^ 31 := by
  have h1 := bv_cnt_le f (2 ^ bn)
  have h2 := bv_p10 hn
  omega
theorem bv_L1a {bs : Nat → Int32} {bn : Nat} {g : Int32} (hn : bn ≤ 10) (h : nI (bv_cnt (bv_is true bs bn g) (2 ^ bn)) ≤ 0) : bv_de bs bn (2 ^ bn - 1) g = false := by
  cases q : bv_de bs bn (2 ^ bn - 1) g with
  | false => rfl
  | true => exact absurd h (nI_nle (bv_T1.mpr q) (bv_cnt_s hn))
theorem bv_L1b {bs : Nat → Int32} {bn : Nat} {g : Int32} (h : ¬ nI (bv_cnt (bv_is true bs bn g) (2 ^ bn)) ≤ 0) : bv_de bs bn (2 ^ bn - 1) g = true := by
  refine bv_T1.mp ?_
  apply Classical.byContradiction
  intro q
  refine h ?_
  rw [Nat.eq_zero_of_not_pos q]
  decide
theorem bv_wy3 {wy : Nat} (h : wy < 3) : ¬ nI wy = 3 := fun q => absurd ((nI_eq (b := 3) (by omega) (by decide)).mp q) (by omega)
theorem bv_allI {bn : Nat} (hn : bn ≤ 7) : ((1 : Int32) <<< (nI bn &&& 31)) - 1 = nI (2 ^ bn - 1) := by
  rw [bv_shl (by omega), show (1 : Int32) = nI 1 from rfl]
  exact bv_sub (Nat.two_pow_pos bn)

