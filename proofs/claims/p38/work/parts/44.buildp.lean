/-! What the law's own methods compute. -/
theorem bv_below (x : Int32) {n : Nat} (h0 : 0 < n) (hn : n < 2 ^ 31) : ∃ j, j < n ∧ (x &&& 2147483647) - (x &&& 2147483647) / nI n * nI n = nI j := by
  obtain ⟨k, hk, e⟩ := pk_andE x (m := 2147483647) 31 (by decide)
  exact ⟨k % n, Nat.mod_lt _ h0, by rw [e, pk_rem hk h0 hn]⟩
def bv_awl (a : Nat) : Nat → Int32
  | 0 => 0
  | w + 1 => bv_awl a w ||| (((nI w >>> (nI a &&& 31)) &&& 1) <<< (nI w &&& 31))
theorem bv_awl16 : ∀ a, a < 4 → bv_awl a 16 = bv_AW a := by decide +kernel
theorem bv_AWn : ∀ a, a < 4 → (65535 : Int32) - bv_AW a = bv_not (bv_AW a) := by decide +kernel
theorem bv_AW16 : ∀ a, a < 4 → bv_AW a &&& 65535 = bv_AW a := by decide +kernel
def bv_jb (kd : Nat) (p q : Bool) : Bool := if kd = 0 then p && q else if kd = 1 then p || q else if kd = 2 then p || !q else p == q
def bv_bo (kd : Nat) (a b : Int32) : Nat → Int32
  | 0 => 0
  | w + 1 => if bv_jb kd (bv_has a (nI w)) (bv_has b (nI w)) = true then bv_bo kd a b w ||| ((1 : Int32) <<< (nI w &&& 31)) else bv_bo kd a b w ||| 0
theorem bv_bo_wa {kd : Nat} {a b : Int32} : ∀ n, n ≤ 16 → bv_bo kd a b n = bv_wa (fun w => if bv_jb kd (bv_has a (nI w)) (bv_has b (nI w)) = true then 0 else 1) 65535 0 n
  | 0, _ => rfl
  | n + 1, hn => by
    have ih := bv_bo_wa n (by omega) (kd := kd) (a := a) (b := b)
    rw [bv_bo, bv_wa, ih]
    by_cases c : bv_jb kd (bv_has a (nI n)) (bv_has b (nI n)) = true
    · rw [if_pos c, if_pos ⟨bv_all16 n (by omega), if_pos c⟩]
    · rw [if_neg c, if_neg (fun z => by
        have h := z.2
        rw [if_neg c] at h
        exact absurd h (by decide)), Int32.or_zero]
theorem bv_has_or {a b : Int32} (ha : a &&& 65535 = a) (hb : b &&& 65535 = b) {w : Nat} (hw : w < 16) : bv_has (a ||| b) (nI w) = (bv_has a (nI w) || bv_has b (nI w)) := by
  obtain ⟨n, hn, rfl⟩ := bv_16 ha
  obtain ⟨m9, hm, rfl⟩ := bv_16 hb
  have h1 : n ||| m9 < 2 ^ 16 := Nat.or_lt_two_pow hn hm
  rw [bv_nIo, bv_has_nI (by omega) (by omega), bv_has_nI (by omega) (by omega), bv_has_nI (by omega) (by omega), Nat.testBit_or]
theorem bv_has_xor {a b : Int32} (ha : a &&& 65535 = a) (hb : b &&& 65535 = b) {w : Nat} (hw : w < 16) : bv_has (a ^^^ b) (nI w) = ((bv_has a (nI w)) ^^ (bv_has b (nI w))) := by
  obtain ⟨n, hn, rfl⟩ := bv_16 ha
  obtain ⟨m9, hm, rfl⟩ := bv_16 hb
  have h1 : n ^^^ m9 < 2 ^ 16 := Nat.xor_lt_two_pow hn hm
  rw [bv_nIx, bv_has_nI (by omega) (by omega), bv_has_nI (by omega) (by omega), bv_has_nI (by omega) (by omega), Nat.testBit_xor]
theorem bv_xor16 {a b : Int32} (ha : a &&& 65535 = a) (hb : b &&& 65535 = b) : (a ^^^ b) &&& 65535 = a ^^^ b := by
  obtain ⟨n, hn, rfl⟩ := bv_16 ha
  obtain ⟨m9, hm, rfl⟩ := bv_16 hb
  rw [bv_nIx]
  exact bv_nI16 (Nat.xor_lt_two_pow (n := 16) hn hm)
theorem bv_bo_join {kd : Nat} {a b : Int32} (hk : kd < 4) (ha : a &&& 65535 = a) (hb : b &&& 65535 = b) : bv_bo kd a b 16 = bv_join (nI kd) a b := by
  rw [bv_bo_wa 16 (Nat.le_refl _)]
  refine bv_ext16 (bv_wa16 _ _ _) (bv_join16 ha hb) (fun w hw => ?_)
  have hj : bv_has (bv_join (nI kd) a b) (nI w) = bv_jb kd (bv_has a (nI w)) (bv_has b (nI w)) := by
    rcases (show kd = 0 ∨ kd = 1 ∨ kd = 2 ∨ kd = 3 by omega) with rfl | rfl | rfl | rfl
    · rw [show bv_join (nI 0) a b = a &&& b from rfl, bv_has_and ha hb hw]; rfl
    · rw [show bv_join (nI 1) a b = a ||| b from rfl, bv_has_or ha hb hw]; rfl
    · rw [show bv_join (nI 2) a b = a ||| bv_not b from rfl, bv_has_or ha (bv_not16 b) hw, bv_has_not hb hw]; rfl
    · rw [show bv_join (nI 3) a b = bv_not (a ^^^ b) from rfl, bv_has_not (bv_xor16 ha hb) hw, bv_has_xor ha hb hw]
      cases bv_has a (nI w) <;> cases bv_has b (nI w) <;> rfl
  rw [bv_has_wa 16 (Nat.le_refl _) w hw, hj]
  by_cases c : bv_jb kd (bv_has a (nI w)) (bv_has b (nI w)) = true
  · rw [if_pos c]
    exact ⟨fun _ => c, fun _ => ⟨hw, bv_all16 w hw, rfl⟩⟩
  · rw [if_neg c]
    exact ⟨fun z => absurd z.2.2 (by decide), fun z => absurd z c⟩
theorem bv_upd1 {f : Nat → Int32} {k : Nat} {v : Int32} : upd f k v k = v := by
  show (if k = k then v else f k) = v
  rw [if_pos rfl]
theorem bv_updO {f : Nat → Int32} {k j : Nat} {v : Int32} (h : j ≠ k) : upd f k v j = f j := by
  show (if j = k then v else f j) = f j
  rw [if_neg h]
theorem bv_updS {f : Nat → Int32} {k : Nat} {v : Int32} : upd f k v (k + 1 - 1) = v := bv_upd1
theorem bv_updP {f : Nat → Int32} {k : Nat} {v : Int32} : upd f (k + 1) v (k + 1 + 1 - 2) = f k := bv_updO (show k ≠ k + 1 by omega)
theorem bv_updN {f : Nat → Int32} {k : Nat} {v x : Int32} : upd (upd f k v) (k + 1 - 1) x = upd f k x := by
  funext j
  show (if j = k then x else (if j = k then v else f j)) = (if j = k then x else f j)
  by_cases e : j = k
  · rw [if_pos e, if_pos e]
  · rw [if_neg e, if_neg e, if_neg e]
theorem bv_kd3 {k : Nat} (h : k < 4) : (0 : Int32) ≤ nI k ∧ nI k ≤ 3 := ⟨nI_pos' (by omega), show nI k ≤ nI 3 from nI_le (by omega) (by decide)⟩

