/-! Sets of the base as natural numbers; what follows from them. -/
theorem bv_nIb (n : Nat) : (nI n).toBitVec = BitVec.ofNat 32 n := rfl
theorem bv_bits : ∀ k, k < 31 → (1 : Int32) <<< (nI k &&& 31) = nI (2 ^ k) := by decide +kernel
theorem bv_smod : ∀ k, k < 31 → ((nI k &&& 31).toBitVec.smod 32).toNat = k := by decide +kernel
theorem bv_nIx (a b : Nat) : nI a ^^^ nI b = nI (a ^^^ b) := by
  apply Int32.toBitVec_inj.mp
  rw [Int32.toBitVec_xor, bv_nIb, bv_nIb, bv_nIb, BitVec.ofNat_xor]
theorem bv_nIo (a b : Nat) : nI a ||| nI b = nI (a ||| b) := by
  apply Int32.toBitVec_inj.mp
  rw [Int32.toBitVec_or, bv_nIb, bv_nIb, bv_nIb, BitVec.ofNat_or]
theorem bv_nIa (a b : Nat) : nI a &&& nI b = nI (a &&& b) := by
  apply Int32.toBitVec_inj.mp
  rw [Int32.toBitVec_and, bv_nIb, bv_nIb, bv_nIb, BitVec.ofNat_and]
theorem bv_has_nI {t k : Nat} (ht : t < 2 ^ 31) (hk : k < 31) : bv_has (nI t) (nI k) = t.testBit k := by
  have h1 : nI t >>> (nI k &&& 31) = nI (t / 2 ^ k) := pk_shrN ht _ k (bv_smod k hk)
  have h2 : nI (t / 2 ^ k) &&& (1 : Int32) = nI (t / 2 ^ k % 2) := by
    have := pk_andN (n := t / 2 ^ k) (by have := Nat.div_le_self t (2 ^ k); omega) (m := 1) 1 (by decide)
    exact this
  have h3 : t / 2 ^ k % 2 < 2 := Nat.mod_lt _ (by decide)
  unfold bv_has
  rw [h1, h2, Nat.testBit_eq_decide_div_mod_eq]
  congr 1
  exact propext (nI_eq (a := t / 2 ^ k % 2) (b := 1) (by omega) (by decide))
theorem bv_xbit {t k : Nat} (hk : k < 31) : nI t ^^^ ((1 : Int32) <<< (nI k &&& 31)) = nI (t ^^^ 2 ^ k) := by rw [bv_bits k hk, bv_nIx]
theorem bv_obit {t k : Nat} (hk : k < 31) : nI t ||| ((1 : Int32) <<< (nI k &&& 31)) = nI (t ||| 2 ^ k) := by rw [bv_bits k hk, bv_nIo]
theorem bv_xlt {t k n : Nat} (ht : t < 2 ^ n) (hk : k < n) : t ^^^ 2 ^ k < 2 ^ n := Nat.xor_lt_two_pow ht (Nat.pow_lt_pow_right (by decide) hk)
theorem bv_olt {t k n : Nat} (ht : t < 2 ^ n) (hk : k < n) : t ||| 2 ^ k < 2 ^ n := Nat.or_lt_two_pow ht (Nat.pow_lt_pow_right (by decide) hk)
theorem bv_p10 {n : Nat} (h : n ≤ 10) : 2 ^ n ≤ 1024 := Nat.pow_le_pow_right (by decide) h
theorem bv_shl {n : Nat} (h : n ≤ 10) : (1 : Int32) <<< (nI n &&& 31) = nI (2 ^ n) := bv_bits n (by omega)
def bv_wi (bs : Nat → Int32) (t : Nat) : Nat → Int32
  | 0 => 65535
  | k + 1 => if t.testBit k then bv_wi bs t k &&& bs k else bv_wi bs t k
def bv_de (bs : Nat → Int32) (bn t : Nat) (g : Int32) : Bool := decide (bv_wi bs t bn &&& bv_not g = 0)
def bv_all (f : Nat → Bool) : Nat → Bool
  | 0 => true
  | k + 1 => bv_all f k && f k
def bv_ik (bs : Nat → Int32) (bn : Nat) (g : Int32) (t : Nat) : Bool := bv_de bs bn t g && bv_all (fun k => !(t.testBit k && bv_de bs bn (t ^^^ 2 ^ k) g)) bn
def bv_ir (bs : Nat → Int32) (bn : Nat) (g : Int32) (t : Nat) : Bool := !bv_de bs bn t g && bv_all (fun k => t.testBit k || bv_de bs bn (t ||| 2 ^ k) g) bn
def bv_is (b : Bool) (bs : Nat → Int32) (bn : Nat) (g : Int32) (t : Nat) : Bool := if b then bv_ik bs bn g t else bv_ir bs bn g t
def bv_cnt (f : Nat → Bool) : Nat → Nat
  | 0 => 0
  | t + 1 => if f t then bv_cnt f t + 1 else bv_cnt f t
theorem bv_cnt_le (f : Nat → Bool) (t : Nat) : bv_cnt f t ≤ t := by
  induction t with
  | zero => exact Nat.le_refl _
  | succ t ih => simp only [bv_cnt]; split <;> omega
def bv_fnd (f : Nat → Bool) (idx : Int32) : Nat → Option Nat
  | 0 => none
  | t + 1 => match bv_fnd f idx t with
    | some x => some x
    | none => if f t = true ∧ nI (bv_cnt f t) = idx then some t else none
theorem bv_fnd_up {f : Nat → Bool} {idx : Int32} {t x : Nat} (h : bv_fnd f idx t = some x) : ∀ n, bv_fnd f idx (t + n) = some x
  | 0 => h
  | n + 1 => by
    have := bv_fnd_up h n
    show bv_fnd f idx (t + n + 1) = some x
    rw [bv_fnd, this]
theorem bv_fnd_hit {f : Nat → Bool} {idx : Int32} {t N : Nat} (h0 : bv_fnd f idx t = none) (h1 : f t = true) (h2 : nI (bv_cnt f t) = idx) (hN : t < N) : bv_fnd f idx N = some t := by
  have h3 : bv_fnd f idx (t + 1) = some t := by rw [bv_fnd, h0]; exact if_pos ⟨h1, h2⟩
  have := bv_fnd_up h3 (N - (t + 1))
  rwa [Nat.add_sub_cancel' hN] at this
def bv_oI : Option Nat → Int32
  | some x => nI x
  | none => -1
def bv_rf (br : Nat → Int32) (r : Int32) : Nat → Nat
  | 0 => 0
  | k + 1 => if r ≤ br k then bv_rf br r k ||| 2 ^ k else bv_rf br r k
theorem bv_rf_lt (br : Nat → Int32) (r : Int32) (k : Nat) : bv_rf br r k < 2 ^ k := by
  induction k with
  | zero => exact Nat.one_pos
  | succ k ih =>
    have h1 : 2 ^ k < 2 ^ (k + 1) := Nat.pow_lt_pow_right (by decide) (Nat.lt_succ_self k)
    simp only [bv_rf]
    split
    · exact Nat.or_lt_two_pow (Nat.lt_trans ih h1) h1
    · exact Nat.lt_trans ih h1
def bv_dg (f : Nat → Bool) : Nat → Nat
  | 0 => 0
  | r + 1 => if f (r + 1) then r + 1 else bv_dg f r
theorem bv_dg_le (f : Nat → Bool) (r : Nat) : bv_dg f r ≤ r := by
  induction r with
  | zero => exact Nat.le_refl _
  | succ r ih => simp only [bv_dg]; split <;> omega
def bv_fr (bs br : Nat → Int32) (bn : Nat) (g : Int32) (r : Nat) : Bool := bv_de bs bn (bv_rf br (nI r) bn) g
def bv_degn (bs br : Nat → Int32) (bn : Nat) (g : Int32) : Nat := if g = 65535 then 10 else bv_dg (bv_fr bs br bn g) 9
theorem bv_degn_le (bs br : Nat → Int32) (bn : Nat) (g : Int32) : bv_degn bs br bn g ≤ 10 := by
  have := bv_dg_le (bv_fr bs br bn g) 9
  unfold bv_degn; split <;> omega
def bv_core (bs br : Nat → Int32) (bn : Nat) : Int32 := bv_wi bs (bv_rf br (nI (bv_degn bs br bn 0 + 1)) bn) bn
def bv_wt (br : Nat → Int32) (t : Nat) : Nat → Int64
  | 0 => 0
  | k + 1 => if t.testBit k then bv_wt br t k + ((1 : Int64) <<< (((4 : Int32) * br k).toInt64 &&& 63)) else bv_wt br t k
def bv_best (f : Nat → Bool) (gt : Nat → Nat → Bool) : Nat → Option Nat
  | 0 => none
  | t + 1 => match bv_best f gt t with
    | none => if f t then some t else none
    | some b => if f t && gt t b then some t else some b
def bv_heavy (br : Nat → Int32) (bn t b : Nat) : Bool := decide (bv_wt br b bn < bv_wt br t bn)
def bv_lst (br : Nat → Int32) (t : Nat) : Nat → Int32
  | 0 => 9
  | k + 1 => if t.testBit k then bv_min (bv_lst br t k) (br k) else bv_lst br t k
def bv_lr (br : Nat → Int32) (bn t : Nat) : Int32 := nI t &&& (nI (bv_rf br (bv_lst br t bn + 1) bn) ^^^ (-1))
def bv_cut (f : Nat → Bool) (g : Nat → Int32) : Nat → Int32
  | 0 => 0
  | t + 1 => if f t then bv_cut f g t ||| g t else bv_cut f g t
def bv_gr (bs br : Nat → Int32) (w : Int32) : Nat → Int32
  | 0 => 0
  | k + 1 => if bv_has (bs k) w then bv_gr bs br w k else bv_max (bv_gr bs br w k) (br k)
def bv_bdig (d : Int64) (bs br : Nat → Int32) : Nat → Int64
  | 0 => d
  | k + 1 => bv_dstep (bv_dstep (bv_bdig d bs br k) (bs k)) (br k)
/-- the table of meets, with the sentence s put to the first T of N sets -/
def bv_mx (mt : Nat → Int32) (N : Nat) (s : Int32) (T : Nat) : Nat → Int32 := fun j => if N ≤ j ∧ j < N + T then mt (j - N) &&& s else mt j
theorem bv_mx_0 {mt : Nat → Int32} {N : Nat} {s : Int32} : bv_mx mt N s 0 = mt := by
  funext j; unfold bv_mx; rw [if_neg (by omega)]
theorem bv_mx_at {mt : Nat → Int32} {N : Nat} {s : Int32} {T j : Nat} (h : j < N) : bv_mx mt N s T j = mt j := by unfold bv_mx; rw [if_neg (by omega)]
theorem bv_mx_s {mt : Nat → Int32} {N : Nat} {s : Int32} {T : Nat} : upd (bv_mx mt N s T) (N + T) (mt T &&& s) = bv_mx mt N s (T + 1) := by
  funext j
  show (if j = N + T then _ else _) = _
  by_cases h : j = N + T
  · subst h; rw [if_pos rfl]; unfold bv_mx; rw [if_pos (by omega), Nat.add_sub_cancel_left]
  · rw [if_neg h]; unfold bv_mx
    by_cases h2 : N ≤ j ∧ j < N + T
    · rw [if_pos h2, if_pos (by omega)]
    · rw [if_neg h2, if_neg (by omega)]
/-- what remove makes, sentence by sentence: (count, sentences, ranks, meets) -/
def bv_rm (t : Nat) (bs br mt : Nat → Int32) : Nat → Nat × (Nat → Int32) × (Nat → Int32) × (Nat → Int32)
  | 0 => (0, bs, br, mt)
  | k + 1 => if t.testBit k then bv_rm t bs br mt k else
    ((bv_rm t bs br mt k).1 + 1, upd (bv_rm t bs br mt k).2.1 (bv_rm t bs br mt k).1 ((bv_rm t bs br mt k).2.1 k), upd (bv_rm t bs br mt k).2.2.1 (bv_rm t bs br mt k).1 ((bv_rm t bs br mt k).2.2.1 k), bv_mx (bv_rm t bs br mt k).2.2.2 (2 ^ (bv_rm t bs br mt k).1) ((bv_rm t bs br mt k).2.1 k) (2 ^ (bv_rm t bs br mt k).1))
theorem bv_rm_le (t : Nat) (bs br mt : Nat → Int32) (k : Nat) : (bv_rm t bs br mt k).1 ≤ k := by
  induction k with
  | zero => exact Nat.le_refl _
  | succ k ih =>
    rw [bv_rm]
    split
    · omega
    · show (bv_rm t bs br mt k).1 + 1 ≤ k + 1; omega

