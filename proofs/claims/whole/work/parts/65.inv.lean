/-! What holds between calls. -/
def bv_pfB (pn : Nat) (pf : Nat → Int32) : Prop := pn ≤ 12 ∧ ∀ j, j < pn → pf j &&& 65535 = pf j
def bv_bsB (bn : Nat) (bs br mt : Nat → Int32) : Prop := bn ≤ 10 ∧ (∀ j, j < bn → bs j &&& 65535 = bs j) ∧ (∀ j, j < bn → ∃ r, 1 ≤ r ∧ r ≤ 9 ∧ br j = nI r) ∧ ∀ t, t < 2 ^ bn → mt t = bv_wi bs t bn
def bv_lvB (M : Nat) (lv : Nat → Int32) : Prop := (∀ w, w < 16 → ∃ n, n ≤ M ∧ lv w = nI n) ∧ ∃ w, w < 16 ∧ lv w = 0
theorem bv_and16 {a b : Int32} (h : a &&& 65535 = a) : (a &&& b) &&& 65535 = a &&& b := by
  rw [Int32.and_assoc, Int32.and_comm b, ← Int32.and_assoc, h]
theorem bv_or16 {a b : Int32} (ha : a &&& 65535 = a) (hb : b &&& 65535 = b) : (a ||| b) &&& 65535 = a ||| b := by
  obtain ⟨n, hn, rfl⟩ := bv_16 ha
  obtain ⟨m9, hm, rfl⟩ := bv_16 hb
  rw [bv_nIo]
  exact bv_nI16 (Nat.or_lt_two_pow (n := 16) hn hm)
theorem bv_at16 {i : Int32} (h : 0 ≤ i ∧ i ≤ 3) : bv_at 4 bv_AW i &&& 65535 = bv_at 4 bv_AW i := by
  rcases bv_joined_cases h with rfl | rfl | rfl | rfl <;> decide
theorem bv_cst16 (b : Bool) : bv_cst b &&& 65535 = bv_cst b := by cases b <;> decide
theorem bv_join16 {i a b : Int32} (ha : a &&& 65535 = a) (hb : b &&& 65535 = b) : bv_join i a b &&& 65535 = bv_join i a b := by
  unfold bv_join
  split
  · exact bv_and16 ha
  · split
    · exact bv_or16 ha hb
    · split
      · exact bv_or16 ha (bv_not16 b)
      · exact bv_not16 _
theorem bv_pf_set {pn k : Nat} {pf : Nat → Int32} {v : Int32} (h : bv_pfB pn pf) (hv : v &&& 65535 = v) : bv_pfB pn (upd pf k v) := ⟨h.1, fun j hj => by
  show (if j = k then v else pf j) &&& 65535 = (if j = k then v else pf j)
  by_cases e : j = k
  · rw [if_pos e]; exact hv
  · rw [if_neg e]; exact h.2 j hj⟩
theorem bv_pf_push {pn : Nat} {pf : Nat → Int32} {v : Int32} (h : bv_pfB pn pf) (hl : pn < 12) (hv : v &&& 65535 = v) : bv_pfB (pn + 1) (upd pf pn v) := ⟨hl, fun j hj => by
  show (if j = pn then v else pf j) &&& 65535 = (if j = pn then v else pf j)
  by_cases e : j = pn
  · rw [if_pos e]; exact hv
  · rw [if_neg e]; exact h.2 j (by omega)⟩
theorem bv_pf_less {pn m9 : Nat} {pf : Nat → Int32} (h : bv_pfB pn pf) (hm : m9 ≤ pn) : bv_pfB m9 pf := ⟨Nat.le_trans hm h.1, fun j hj => h.2 j (by omega)⟩
theorem bv_wi_congr {f g : Nat → Int32} {t u : Nat} : ∀ n, (∀ k, k < n → f k = g k ∧ t.testBit k = u.testBit k) → bv_wi f t n = bv_wi g u n
  | 0, _ => rfl
  | n + 1, h => by
    rw [bv_wi, bv_wi, bv_wi_congr n (fun k hk => h k (by omega)), (h n (Nat.lt_succ_self n)).1, (h n (Nat.lt_succ_self n)).2]
theorem bv_wi_0 {f : Nat → Int32} : ∀ n, bv_wi f 0 n = 65535
  | 0 => rfl
  | n + 1 => by rw [bv_wi, Nat.zero_testBit, if_neg (by decide)]; exact bv_wi_0 n
theorem bv_rk {r : Int32} (hr : 1 ≤ r ∧ r ≤ 9) : ∃ q, 1 ≤ q ∧ q ≤ 9 ∧ r = nI q := by
  obtain ⟨q, hq, e2⟩ := bv_ix2 (i := r) (m9 := 9) (n := 9) (by decide) (Int32.le_trans (by decide) hr.1) hr.2
  refine ⟨q, ?_, hq, e2⟩
  by_cases z : q = 0
  · rw [e2, z] at hr; exact absurd hr.1 (by decide)
  · omega
theorem bv_kr {br : Nat → Int32} {k : Nat} (h : ∃ r, 1 ≤ r ∧ r ≤ 9 ∧ br k = nI r) : 1 ≤ br k ∧ br k ≤ 9 := by
  obtain ⟨r, h1, h2, e⟩ := h
  rw [e]
  exact ⟨nI_le (a := 1) h1 (by omega), nI_le (b := 9) h2 (by decide)⟩
theorem bv_bs_add {bn : Nat} {bs br mt : Nat → Int32} {v r : Int32} (h : bv_bsB bn bs br mt) (hl : bn < 10) (hv : v &&& 65535 = v) (hr : 1 ≤ r ∧ r ≤ 9) : bv_bsB (bn + 1) (upd bs bn v) (upd br bn r) (bv_mx mt (2 ^ bn) v (2 ^ bn)) := by
  obtain ⟨h1, h2, h3, h4⟩ := h
  refine ⟨by omega, fun j hj => ?_, fun j hj => ?_, fun t ht => ?_⟩
  · show (if j = bn then v else bs j) &&& 65535 = (if j = bn then v else bs j)
    by_cases e : j = bn
    · rw [if_pos e]; exact hv
    · rw [if_neg e]; exact h2 j (by omega)
  · show ∃ q, 1 ≤ q ∧ q ≤ 9 ∧ (if j = bn then r else br j) = nI q
    by_cases e : j = bn
    · rw [if_pos e]; exact bv_rk hr
    · rw [if_neg e]; exact h3 j (by omega)
  · have hp : 2 ^ (bn + 1) = 2 ^ bn + 2 ^ bn := by rw [Nat.pow_succ]; omega
    have hc : ∀ k, k < bn → bs k = upd bs bn v k := fun k hk => by
      show bs k = (if k = bn then v else bs k)
      rw [if_neg (by omega)]
    have hs : upd bs bn v bn = v := by
      show (if bn = bn then v else bs bn) = v
      rw [if_pos rfl]
    unfold bv_mx
    rw [bv_wi]
    by_cases e : t < 2 ^ bn
    · rw [if_neg (fun q => by omega), Nat.testBit_lt_two_pow e, if_neg (by decide), h4 t e]
      exact bv_wi_congr bn (fun k hk => ⟨hc k hk, rfl⟩)
    · obtain ⟨u, rfl⟩ : ∃ u, t = 2 ^ bn + u := ⟨t - 2 ^ bn, by omega⟩
      have hu : u < 2 ^ bn := by omega
      rw [if_pos ⟨by omega, by omega⟩, Nat.testBit_two_pow_add_eq, Nat.testBit_lt_two_pow hu, if_pos (show (!false) = true from rfl), hs, Nat.add_sub_cancel_left, h4 u hu]
      rw [bv_wi_congr (t := u) (u := 2 ^ bn + u) bn (fun k hk => ⟨hc k hk, (Nat.testBit_two_pow_add_gt hk u).symm⟩)]
theorem bv_bs_rank {bn j0 : Nat} {bs br mt : Nat → Int32} {r : Int32} (h : bv_bsB bn bs br mt) (hr : 1 ≤ r ∧ r ≤ 9) : bv_bsB bn bs (upd br j0 r) mt := ⟨h.1, h.2.1, fun j hj => by
  show ∃ q, 1 ≤ q ∧ q ≤ 9 ∧ (if j = j0 then r else br j) = nI q
  by_cases e : j = j0
  · rw [if_pos e]; exact bv_rk hr
  · rw [if_neg e]; exact h.2.2.1 j hj, h.2.2.2⟩
theorem bv_bs_drop {bn : Nat} {bs br mt : Nat → Int32} (h : bv_bsB bn bs br mt) : bv_bsB (bn - 1) bs br mt := by
  cases bn with
  | zero => exact h
  | succ n =>
    obtain ⟨h1, h2, h3, h4⟩ := h
    refine ⟨by omega, fun j hj => h2 j (by omega), fun j hj => h3 j (by omega), fun t ht => ?_⟩
    have ht' : t < 2 ^ n := ht
    have hp : 2 ^ (n + 1) = 2 ^ n + 2 ^ n := by rw [Nat.pow_succ]; omega
    rw [h4 t (by omega), bv_wi, Nat.testBit_lt_two_pow ht', if_neg (by decide)]
    rfl
theorem bv_bs_rm {bn : Nat} {bs br mt : Nat → Int32} (h : bv_bsB bn bs br mt) (t : Nat) : ∀ k, k ≤ bn → bv_bsB (bv_rm t bs br mt k).1 (bv_rm t bs br mt k).2.1 (bv_rm t bs br mt k).2.2.1 (bv_rm t bs br mt k).2.2.2 ∧ ∀ j, k ≤ j → (bv_rm t bs br mt k).2.1 j = bs j ∧ (bv_rm t bs br mt k).2.2.1 j = br j
  | 0, _ => ⟨⟨Nat.zero_le _, fun j hj => absurd hj (Nat.not_lt_zero _), fun j hj => absurd hj (Nat.not_lt_zero _), fun u hu => by
      have hu0 : u = 0 := Nat.lt_one_iff.mp hu
      subst hu0
      show mt 0 = 65535
      rw [h.2.2.2 0 (Nat.two_pow_pos bn), bv_wi_0]⟩, fun j _ => ⟨rfl, rfl⟩⟩
  | k + 1, hk => by
    have ih := bv_bs_rm h t k (by omega)
    have hle := bv_rm_le t bs br mt k
    have hb := h.1
    rw [bv_rm]
    by_cases e : t.testBit k = true
    · rw [if_pos e]
      exact ⟨ih.1, fun j hj => ih.2 j (by omega)⟩
    · rw [if_neg e]
      refine ⟨bv_bs_add ih.1 (by omega) (by rw [(ih.2 k (Nat.le_refl _)).1]; exact h.2.1 k (by omega)) (by rw [(ih.2 k (Nat.le_refl _)).2]; exact bv_kr (h.2.2.1 k (by omega))), fun j hj => ⟨?_, ?_⟩⟩
      · show (if j = (bv_rm t bs br mt k).1 then _ else (bv_rm t bs br mt k).2.1 j) = bs j
        rw [if_neg (by omega)]; exact (ih.2 j (by omega)).1
      · show (if j = (bv_rm t bs br mt k).1 then _ else (bv_rm t bs br mt k).2.2.1 j) = br j
        rw [if_neg (by omega)]; exact (ih.2 j (by omega)).2
theorem bv_sh16v {lv : Nat → Int32} {S d : Int32} {w : Nat} (hw : w < 16) : bv_sh lv S d 16 w = if bv_has S (nI w) = true then lv w + d else lv w := by
  unfold bv_sh
  by_cases c : bv_has S (nI w) = true
  · rw [if_pos ⟨hw, c⟩, if_pos c]
  · rw [if_neg (fun q => c q.2), if_neg c]
theorem bv_bf16v {lv : Nat → Int32} {S : Int32} {w : Nat} (hw : w < 16) : bv_bf lv S 16 w = if bv_has S (nI w) = true then 0 else lv w := by
  unfold bv_bf
  by_cases c : bv_has S (nI w) = true
  · rw [if_pos ⟨hw, c⟩, if_pos c]
  · rw [if_neg (fun q => c q.2), if_neg c]
theorem bv_lsub {a b : Nat} (h : b ≤ a) : nI a + -(nI b) = nI (a - b) := by rw [← Int32.sub_eq_add_neg]; exact bv_sub h
theorem bv_lsubf {a b f : Nat} (h : b ≤ a) : nI a + (nI f - nI b) = nI (a - b + f) := by
  rw [Int32.sub_eq_add_neg, Int32.add_comm (nI f), ← Int32.add_assoc, bv_lsub h, nI_add]
theorem bv_lv6 {M : Nat} {lv : Nat → Int32} (h : ∀ w, w < 16 → ∃ n, n ≤ M ∧ lv w = nI n) (hM : M ≤ 1000000) : ∀ w, w < 16 → ∃ n, n ≤ 1000000 ∧ lv w = nI n := fun w hw => by
  obtain ⟨n, hn, e⟩ := h w hw
  exact ⟨n, by omega, e⟩
theorem bv_lv_least {M : Nat} {lv : Nat → Int32} {S : Int32} (h : ∀ w, w < 16 → ∃ n, n ≤ M ∧ lv w = nI n) (hM : M ≤ 1000000) (hS : S &&& 65535 = S) (h0 : ¬ S = 0) : ∃ b, b ≤ M ∧ bv_ll lv S 16 = nI b ∧ (∃ w, w < 16 ∧ bv_has S (nI w) = true ∧ lv w = nI b) ∧ ∀ w, w < 16 → bv_has S (nI w) = true → ∀ n, n ≤ M → lv w = nI n → b ≤ n := by
  obtain ⟨⟨w0, hw0, hs0, e0⟩, hall⟩ := bv_ll_spec (bv_hl6 (bv_lv6 h hM)) 16 (Nat.le_refl _) (bv_some hS h0)
  obtain ⟨b, hb, eb⟩ := h w0 hw0
  refine ⟨b, hb, by rw [← e0, eb], ⟨w0, hw0, hs0, eb⟩, fun w hw hs n hn en => ?_⟩
  have h9 := hall w hw hs
  rw [← e0, eb, en] at h9
  exact (nI_leI (by omega) (by omega)).mp h9
theorem bv_lv_mono {M N : Nat} {lv : Nat → Int32} (h : bv_lvB M lv) (hN : M ≤ N) : bv_lvB N lv := ⟨fun w hw => by
  obtain ⟨n, hn, e⟩ := h.1 w hw
  exact ⟨n, by omega, e⟩, h.2⟩
theorem bv_lv_load {bn : Nat} {bs br lv : Nat → Int32} (hbr : ∀ j, j < bn → ∃ r, 1 ≤ r ∧ r ≤ 9 ∧ br j = nI r) : bv_lvB 9 (bv_loaded bs br bn lv) := by
  have hg : ∀ (w : Int32) (k : Nat), k ≤ bn → ∃ n, n ≤ 9 ∧ bv_gr bs br w k = nI n := by
    intro w k
    induction k with
    | zero => exact fun _ => ⟨0, by omega, rfl⟩
    | succ k ih =>
      intro hk
      obtain ⟨n, hn, e⟩ := ih (by omega)
      rw [bv_gr]
      split
      · exact ⟨n, hn, e⟩
      · obtain ⟨r, h1, h2, e2⟩ := hbr k (by omega)
        unfold bv_max
        split
        · exact ⟨r, h2, e2⟩
        · exact ⟨n, hn, e⟩
  have hl : ∀ w, w < 16 → ∃ n, n ≤ 9 ∧ bv_load bs br bn lv w = nI n := fun w hw => by
    unfold bv_load bv_put1
    rw [if_pos hw]
    exact hg (nI w) bn (Nat.le_refl _)
  obtain ⟨b, hb, eb, ⟨w0, hw0, hs0, e0⟩, hall⟩ := bv_lv_least hl (by omega) (S := 65535) (by decide) (by decide)
  unfold bv_loaded
  rw [eb]
  refine ⟨fun w hw => ?_, w0, hw0, ?_⟩
  · obtain ⟨n, hn, e⟩ := hl w hw
    rw [bv_sh16v hw, if_pos (bv_all16 w hw), e, bv_lsub (hall w hw (bv_all16 w hw) n hn e)]
    exact ⟨n - b, by omega, rfl⟩
  · rw [bv_sh16v hw0, if_pos (bv_all16 w0 hw0), e0, bv_lsub (Nat.le_refl _), Nat.sub_self]
    exact nI_0
theorem bv_lv_firm {M f : Nat} {lv : Nat → Int32} {S : Int32} (h : bv_lvB M lv) (hM : M ≤ 1000000) (hS : S &&& 65535 = S) (h0 : ¬ S = 0) (hf : f ≤ 9) : bv_lvB (M + 9) (bv_firm lv S (nI f)) := by
  obtain ⟨hl, -⟩ := h
  obtain ⟨b, hb, eb, ⟨w0, hw0, hs0, e0⟩, hall⟩ := bv_lv_least hl hM hS h0
  have hf1 : ∀ w, w < 16 → bv_has S (nI w) = true → ∀ n, n ≤ M → lv w = nI n → bv_firm1 lv S w = nI (n - b) := fun w hw hs n hn e => by
    unfold bv_firm1
    rw [bv_sh16v hw, if_pos hs, eb, e, bv_lsub (hall w hw hs n hn e)]
  have hf2 : ∀ w, w < 16 → ¬ bv_has S (nI w) = true → bv_firm1 lv S w = lv w := fun w hw hs => by
    unfold bv_firm1
    rw [bv_sh16v hw, if_neg hs]
  have hl1 : ∀ w, w < 16 → ∃ n, n ≤ M ∧ bv_firm1 lv S w = nI n := fun w hw => by
    obtain ⟨n, hn, e⟩ := hl w hw
    by_cases c : bv_has S (nI w) = true
    · exact ⟨n - b, by omega, hf1 w hw c n hn e⟩
    · exact ⟨n, hn, by rw [hf2 w hw c, e]⟩
  have hN : ∀ w, w < 16 → bv_has (bv_not S) (nI w) = true → ¬ bv_has S (nI w) = true := fun w hw q c => by
    rw [bv_has_not hS hw, c] at q
    exact absurd q (by decide)
  refine ⟨fun w hw => ?_, w0, hw0, ?_⟩
  · obtain ⟨n, hn, e⟩ := hl1 w hw
    unfold bv_firm
    rw [bv_sh16v hw]
    by_cases c : bv_has (bv_not S) (nI w) = true
    · rw [if_pos c]
      have hz : ¬ bv_not S = 0 := fun q => by
        rw [q, bv_has0 w hw] at c
        exact absurd c (by decide)
      obtain ⟨b2, hb2, eb2, -, hall2⟩ := bv_lv_least hl1 hM (bv_not16 S) hz
      rw [eb2, e, bv_lsubf (hall2 w hw c n hn e)]
      exact ⟨n - b2 + f, by omega, rfl⟩
    · rw [if_neg c]
      exact ⟨n, by omega, e⟩
  · unfold bv_firm
    rw [bv_sh16v hw0, if_neg (fun q => hN w0 hw0 q hs0), hf1 w0 hw0 hs0 b hb e0, Nat.sub_self]
    exact nI_0
theorem bv_lv_nat {M : Nat} {lv : Nat → Int32} {S : Int32} (h : bv_lvB M lv) (hM : M ≤ 1000000) (hS : S &&& 65535 = S) (h0 : ¬ S = 0) : bv_lvB (M + 1) (bv_nat lv S) := by
  obtain ⟨hl, -⟩ := h
  obtain ⟨b, hb, eb, ⟨w0, hw0, hs0, e0⟩, -⟩ := bv_lv_least hl hM hS h0
  unfold bv_nat
  refine ⟨fun w hw => ?_, w0, hw0, ?_⟩
  · rw [bv_bf16v hw]
    obtain ⟨n, hn, e⟩ := hl w hw
    by_cases c : bv_has (bv_mp lv S) (nI w) = true
    · rw [if_pos c]; exact ⟨0, by omega, nI_0.symm⟩
    · rw [if_neg c, bv_sh16v hw, if_pos (bv_all16 w hw), e, nI_1]; exact ⟨n + 1, by omega, rfl⟩
  · rw [bv_bf16v hw0, if_pos ((bv_mp_has hw0).mpr ⟨hs0, by rw [e0, eb]⟩)]
theorem bv_lv_doubt {M : Nat} {lv : Nat → Int32} {S : Int32} (h : bv_lvB M lv) (hM : M ≤ 1000000) (h0 : ¬ bv_not S = 0) : bv_lvB M (bv_doubt lv S) := by
  obtain ⟨hl, -⟩ := h
  obtain ⟨b, hb, eb, ⟨w0, hw0, hs0, e0⟩, -⟩ := bv_lv_least hl hM (bv_not16 S) h0
  unfold bv_doubt
  refine ⟨fun w hw => ?_, w0, hw0, ?_⟩
  · rw [bv_bf16v hw]
    obtain ⟨n, hn, e⟩ := hl w hw
    by_cases c : bv_has (bv_mp lv (bv_not S)) (nI w) = true
    · rw [if_pos c]; exact ⟨0, by omega, nI_0.symm⟩
    · rw [if_neg c, e]; exact ⟨n, hn, rfl⟩
  · rw [bv_bf16v hw0, if_pos ((bv_mp_has hw0).mpr ⟨hs0, by rw [e0, eb]⟩)]
theorem bv_lv_strict {M : Nat} {lv ks : Nat → Int32} {S : Int32} (h : bv_lvB M lv) (hM : M ≤ 1000000) : bv_lvB 16 (bv_strict lv ks S) := by
  rw [bv_strict_eq]
  obtain ⟨g, hg, hk⟩ := bv_keyN (S := S) (bv_lv6 h.1 hM)
  have hkl : ∀ w, w < 16 → 0 ≤ bv_key lv S w ∧ bv_key lv S w < 2147483647 := fun w hw => by
    obtain ⟨n, hn, -, e⟩ := hk w hw
    rw [e]
    split
    · exact ⟨nI_pos' (by omega), show nI n < nI 2147483647 from nI_lt (by omega) (by omega)⟩
    · exact ⟨nI_pos' (by omega), show nI (n + (g + 1)) < nI 2147483647 from nI_lt (by omega) (by omega)⟩
  obtain ⟨⟨w0, hw0, -, e0⟩, hall⟩ := bv_ll_spec hkl 16 (Nat.le_refl _) (S := 65535) ⟨0, by decide, bv_all16 0 (by decide)⟩
  refine ⟨fun w hw => ?_, w0, hw0, ?_⟩
  · unfold bv_ordr bv_put1
    rw [if_pos hw]
    exact ⟨_, bv_cd_le _ _ 16, rfl⟩
  · unfold bv_ordr bv_put1
    rw [if_pos hw0]
    show nI (bv_cd (bv_key lv S) (bv_key lv S w0) 16) = 0
    have h9 : bv_cd (bv_key lv S) (bv_key lv S w0) 16 = 0 := bv_cd_zero 16 (fun k hk2 => by rw [e0]; exact hall k hk2 (bv_all16 k hk2))
    rw [h9]
    exact nI_0
theorem bv_lv_learn {M : Nat} {lv ks : Nat → Int32} {wi fi S : Int32} (h : bv_lvB M lv) (hM : M ≤ 1000000) (hS : S &&& 65535 = S) (hw : 0 ≤ wi ∧ wi ≤ 3) (hf : wi = 0 → 0 ≤ fi ∧ fi ≤ 9) (hz : ¬ S = (if wi = 3 then 65535 else 0)) : bv_lvB (M + 20) (bv_learn lv ks wi.toNatClampNeg S fi) := by
  rcases bv_joined_cases hw with rfl | rfl | rfl | rfl
  · rw [show (0 : Int32).toNatClampNeg = 0 from by decide, bv_learn0]
    rw [if_neg (by decide)] at hz
    obtain ⟨f, hf9, rfl⟩ := bv_ix2 (n := 9) (by decide) (hf rfl).1 (hf rfl).2
    exact bv_lv_mono (bv_lv_firm h hM hS hz hf9) (by omega)
  · rw [show (1 : Int32).toNatClampNeg = 1 from by decide, bv_learn1]
    rw [if_neg (by decide)] at hz
    exact bv_lv_mono (bv_lv_nat h hM hS hz) (by omega)
  · rw [show (2 : Int32).toNatClampNeg = 2 from by decide, bv_learn2]
    exact bv_lv_mono (bv_lv_strict h hM) (by omega)
  · rw [show (3 : Int32).toNatClampNeg = 3 from by decide, bv_learn3]
    rw [if_pos rfl] at hz
    exact bv_lv_mono (bv_lv_doubt h hM (bv_notnz hS hz)) (by omega)
def bv_Inv (n pn : Nat) (pf : Nat → Int32) (bn : Nat) (bs br mt lv : Nat → Int32) : Prop := bv_pfB pn pf ∧ bv_bsB bn bs br mt ∧ bv_lvB (20 * n + 20) lv
theorem bv_Inv.next {n pn bn : Nat} {pf bs br mt lv : Nat → Int32} (h : bv_Inv n pn pf bn bs br mt lv) : bv_Inv (n + 1) pn pf bn bs br mt lv := ⟨h.1, h.2.1, bv_lv_mono h.2.2 (by omega)⟩
theorem bv_if_z {α : Type} {cd : Nat} {a b : α} (h : cd = 0) : bv_if cd a b = a := by subst h; rfl
theorem bv_if_s {α : Type} {cd : Nat} {a b : α} (h : ¬ cd = 0) : bv_if cd a b = b := by
  cases cd with
  | zero => exact absurd rfl h
  | succ n => rfl
theorem bv_ck {P : Prop} [Decidable P] {k r : Nat} (c : (if ¬ P then k + 1 else r) = 0) : P ∧ r = 0 := by
  by_cases hP : P
  · rw [if_neg (not_not_intro hP)] at c; exact ⟨hP, c⟩
  · rw [if_pos hP] at c; exact absurd c (Nat.succ_ne_zero _)
theorem bv_ck_lt {P : Prop} [Decidable P] {k r : Nat} (hk : k < 100) (hr : r < 100) : (if P then k else r) < 100 := by split <;> assumption
theorem bv_cd0 {n : Nat} (h : n < 100) (e : nI n = 0) : n = 0 := (bv_pn0 (by omega)).mp e
theorem bv_I_atom {n pn bn : Nat} {pf bs br mt lv : Nat → Int32} {i : Int32} (h : bv_Inv n pn pf bn bs br mt lv) : bv_Inv (n + 1) (bv_if (if ¬ (0 ≤ i ∧ i ≤ 3) then 1 else (if ¬ (pn < 12) then 2 else 0)) (pn + 1) pn) (bv_if (if ¬ (0 ≤ i ∧ i ≤ 3) then 1 else (if ¬ (pn < 12) then 2 else 0)) (upd pf pn (bv_at 4 bv_AW i)) pf) bn bs br mt lv := by
  by_cases c : (if ¬ (0 ≤ i ∧ i ≤ 3) then 1 else (if ¬ (pn < 12) then 2 else 0)) = 0
  · simp only [bv_if_z c]
    obtain ⟨hI1, hI2, hI3⟩ := h.next
    exact ⟨bv_pf_push hI1 (bv_ck (bv_ck c).2).1 (bv_at16 (bv_ck c).1), hI2, hI3⟩
  · simp only [bv_if_s c]
    exact h.next
theorem bv_I_constant {n pn bn : Nat} {pf bs br mt lv : Nat → Int32} {b : Bool} (h : bv_Inv n pn pf bn bs br mt lv) : bv_Inv (n + 1) (bv_if (if ¬ (pn < 12) then 1 else 0) (pn + 1) pn) (bv_if (if ¬ (pn < 12) then 1 else 0) (upd pf pn (bv_cst b)) pf) bn bs br mt lv := by
  by_cases c : (if ¬ (pn < 12) then 1 else 0) = 0
  · simp only [bv_if_z c]
    obtain ⟨hI1, hI2, hI3⟩ := h.next
    exact ⟨bv_pf_push hI1 (bv_ck c).1 (bv_cst16 b), hI2, hI3⟩
  · simp only [bv_if_s c]
    exact h.next
theorem bv_I_recall {n pn bn : Nat} {pf bs br mt lv : Nat → Int32} {i : Int32} (h : bv_Inv n pn pf bn bs br mt lv) : bv_Inv (n + 1) (bv_if (if ¬ (0 ≤ i ∧ i < nI bn) then 1 else (if ¬ (pn < 12) then 2 else 0)) (pn + 1) pn) (bv_if (if ¬ (0 ≤ i ∧ i < nI bn) then 1 else (if ¬ (pn < 12) then 2 else 0)) (upd pf pn (bs i.toNatClampNeg)) pf) bn bs br mt lv := by
  by_cases c : (if ¬ (0 ≤ i ∧ i < nI bn) then 1 else (if ¬ (pn < 12) then 2 else 0)) = 0
  · simp only [bv_if_z c]
    obtain ⟨hI1, hI2, hI3⟩ := h.next
    exact ⟨bv_pf_push hI1 (bv_ck (bv_ck c).2).1 (by
      obtain ⟨j, hj, rfl⟩ := bv_ix ((bv_ck c).1).1 ((bv_ck c).1).2 (by have := hI2.1; omega)
      rw [nI_clamp (by have := hI2.1; omega)]
      exact hI2.2.1 j hj), hI2, hI3⟩
  · simp only [bv_if_s c]
    exact h.next
theorem bv_I_negate {n pn bn : Nat} {pf bs br mt lv : Nat → Int32}  (h : bv_Inv n pn pf bn bs br mt lv) : bv_Inv (n + 1) pn (bv_if (if ¬ (1 ≤ pn) then 1 else 0) (upd pf (pn - 1) (bv_not (pf (pn - 1)))) pf) bn bs br mt lv := by
  by_cases c : (if ¬ (1 ≤ pn) then 1 else 0) = 0
  · simp only [bv_if_z c]
    obtain ⟨hI1, hI2, hI3⟩ := h.next
    exact ⟨bv_pf_set hI1 (bv_not16 _), hI2, hI3⟩
  · simp only [bv_if_s c]
    exact h.next
theorem bv_I_join {n pn bn : Nat} {pf bs br mt lv : Nat → Int32} {i : Int32} (h : bv_Inv n pn pf bn bs br mt lv) : bv_Inv (n + 1) (bv_if (if ¬ (0 ≤ i ∧ i ≤ 3) then 1 else (if ¬ (2 ≤ pn) then 2 else 0)) (pn - 1) pn) (bv_if (if ¬ (0 ≤ i ∧ i ≤ 3) then 1 else (if ¬ (2 ≤ pn) then 2 else 0)) (upd pf (pn - 2) (bv_join i (pf (pn - 2)) (pf (pn - 1)))) pf) bn bs br mt lv := by
  by_cases c : (if ¬ (0 ≤ i ∧ i ≤ 3) then 1 else (if ¬ (2 ≤ pn) then 2 else 0)) = 0
  · simp only [bv_if_z c]
    obtain ⟨hI1, hI2, hI3⟩ := h.next
    exact ⟨bv_pf_less (bv_pf_set hI1 (bv_join16 (hI1.2 _ (by have := (bv_ck (bv_ck c).2).1; omega)) (hI1.2 _ (by have := (bv_ck (bv_ck c).2).1; omega)))) (Nat.sub_le _ _), hI2, hI3⟩
  · simp only [bv_if_s c]
    exact h.next
theorem bv_I_pop {n pn bn : Nat} {pf bs br mt lv : Nat → Int32}  (h : bv_Inv n pn pf bn bs br mt lv) : bv_Inv (n + 1) (bv_if (if ¬ (1 ≤ pn) then 1 else 0) (pn - 1) pn) pf bn bs br mt lv := by
  by_cases c : (if ¬ (1 ≤ pn) then 1 else 0) = 0
  · simp only [bv_if_z c]
    obtain ⟨hI1, hI2, hI3⟩ := h.next
    exact ⟨bv_pf_less hI1 (Nat.sub_le _ _), hI2, hI3⟩
  · simp only [bv_if_s c]
    exact h.next
theorem bv_I_add {n pn bn : Nat} {pf bs br mt lv : Nat → Int32} {r : Int32} (h : bv_Inv n pn pf bn bs br mt lv) : bv_Inv (n + 1) pn pf (bv_if (if ¬ (1 ≤ r ∧ r ≤ 9) then 1 else (if ¬ (1 ≤ pn) then 2 else (if ¬ (bn < 10) then 2 else 0))) (bn + 1) bn) (bv_if (if ¬ (1 ≤ r ∧ r ≤ 9) then 1 else (if ¬ (1 ≤ pn) then 2 else (if ¬ (bn < 10) then 2 else 0))) (upd bs bn (pf (pn - 1))) bs) (bv_if (if ¬ (1 ≤ r ∧ r ≤ 9) then 1 else (if ¬ (1 ≤ pn) then 2 else (if ¬ (bn < 10) then 2 else 0))) (upd br bn r) br) (bv_if (if ¬ (1 ≤ r ∧ r ≤ 9) then 1 else (if ¬ (1 ≤ pn) then 2 else (if ¬ (bn < 10) then 2 else 0))) (bv_mx mt (2 ^ bn) (pf (pn - 1)) (2 ^ bn)) mt) lv := by
  by_cases c : (if ¬ (1 ≤ r ∧ r ≤ 9) then 1 else (if ¬ (1 ≤ pn) then 2 else (if ¬ (bn < 10) then 2 else 0))) = 0
  · simp only [bv_if_z c]
    obtain ⟨hI1, hI2, hI3⟩ := h.next
    exact ⟨hI1, bv_bs_add hI2 (bv_ck (bv_ck (bv_ck c).2).2).1 (hI1.2 _ (by have := (bv_ck (bv_ck c).2).1; omega)) (bv_ck c).1, hI3⟩
  · simp only [bv_if_s c]
    exact h.next
theorem bv_I_setRank {n pn bn : Nat} {pf bs br mt lv : Nat → Int32} {i r : Int32} (h : bv_Inv n pn pf bn bs br mt lv) : bv_Inv (n + 1) pn pf bn bs (bv_if (if ¬ (0 ≤ i ∧ i < nI bn) then 1 else (if ¬ (1 ≤ r ∧ r ≤ 9) then 2 else 0)) (upd br i.toNatClampNeg r) br) mt lv := by
  by_cases c : (if ¬ (0 ≤ i ∧ i < nI bn) then 1 else (if ¬ (1 ≤ r ∧ r ≤ 9) then 2 else 0)) = 0
  · simp only [bv_if_z c]
    obtain ⟨hI1, hI2, hI3⟩ := h.next
    exact ⟨hI1, bv_bs_rank hI2 (bv_ck (bv_ck c).2).1, hI3⟩
  · simp only [bv_if_s c]
    exact h.next
theorem bv_I_drop {n pn bn : Nat} {pf bs br mt lv : Nat → Int32}  (h : bv_Inv n pn pf bn bs br mt lv) : bv_Inv (n + 1) pn pf (bv_if (if ¬ (1 ≤ bn) then 1 else 0) (bn - 1) bn) bs br mt lv := by
  by_cases c : (if ¬ (1 ≤ bn) then 1 else 0) = 0
  · simp only [bv_if_z c]
    obtain ⟨hI1, hI2, hI3⟩ := h.next
    exact ⟨hI1, bv_bs_drop hI2, hI3⟩
  · simp only [bv_if_s c]
    exact h.next
theorem bv_I_giveUp {n pn bn : Nat} {pf bs br mt lv : Nat → Int32} {i : Int32} (h : bv_Inv n pn pf bn bs br mt lv) : bv_Inv (n + 1) pn pf (bv_if (if ¬ (0 ≤ i ∧ i < nI (2 ^ bn)) then 1 else 0) ((bv_rm i.toNatClampNeg bs br mt bn).1) bn) (bv_if (if ¬ (0 ≤ i ∧ i < nI (2 ^ bn)) then 1 else 0) ((bv_rm i.toNatClampNeg bs br mt bn).2.1) bs) (bv_if (if ¬ (0 ≤ i ∧ i < nI (2 ^ bn)) then 1 else 0) ((bv_rm i.toNatClampNeg bs br mt bn).2.2.1) br) (bv_if (if ¬ (0 ≤ i ∧ i < nI (2 ^ bn)) then 1 else 0) ((bv_rm i.toNatClampNeg bs br mt bn).2.2.2) mt) lv := by
  by_cases c : (if ¬ (0 ≤ i ∧ i < nI (2 ^ bn)) then 1 else 0) = 0
  · simp only [bv_if_z c]
    obtain ⟨hI1, hI2, hI3⟩ := h.next
    exact ⟨hI1, (bv_bs_rm hI2 _ bn (Nat.le_refl _)).1, hI3⟩
  · simp only [bv_if_s c]
    exact h.next
theorem bv_I_learn {n pn bn : Nat} {pf bs br mt lv ks : Nat → Int32} {wi fi : Int32} (hn : n < 600) (h : bv_Inv n pn pf bn bs br mt lv) : bv_Inv (n + 1) pn pf bn bs br mt (bv_if (if ¬ (0 ≤ wi ∧ wi ≤ 3) then 1 else (if ¬ (wi = 0 → 0 ≤ fi ∧ fi ≤ 9) then 1 else (if ¬ (1 ≤ pn) then 2 else (if ¬ (¬ (pf (pn - 1)) = (if wi = 3 then 65535 else 0)) then 2 else 0)))) (bv_learn lv ks wi.toNatClampNeg (pf (pn - 1)) fi) lv) := by
  by_cases c : (if ¬ (0 ≤ wi ∧ wi ≤ 3) then 1 else (if ¬ (wi = 0 → 0 ≤ fi ∧ fi ≤ 9) then 1 else (if ¬ (1 ≤ pn) then 2 else (if ¬ (¬ (pf (pn - 1)) = (if wi = 3 then 65535 else 0)) then 2 else 0)))) = 0
  · rw [bv_if_z c]
    have c1 := bv_ck c
    have c2 := bv_ck c1.2
    have c3 := bv_ck c2.2
    have c4 := bv_ck c3.2
    exact ⟨h.1, h.2.1, bv_lv_mono (bv_lv_learn h.2.2 (by omega) (h.1.2 _ (by have := c3.1; omega)) c1.1 c2.1 c4.1) (by omega)⟩
  · rw [bv_if_s c]
    exact h.next
theorem bv_I_load {n pn bn : Nat} {pf bs br mt lv : Nat → Int32} (h : bv_Inv n pn pf bn bs br mt lv) : bv_Inv (n + 1) pn pf bn bs br mt (bv_loaded bs br bn lv) := ⟨h.1, h.2.1, bv_lv_mono (bv_lv_load h.2.1.2.2.1) (by omega)⟩
theorem bv_I_0 : bv_Inv 0 0 (fun _ => 0) 0 (fun _ => 0) (fun _ => 0) (upd (fun _ => 0) 0 65535) (fun _ => 0) := by
  refine ⟨⟨by decide, fun j hj => absurd hj (Nat.not_lt_zero _)⟩, ⟨by decide, fun j hj => absurd hj (Nat.not_lt_zero _), fun j hj => absurd hj (Nat.not_lt_zero _), fun t ht => ?_⟩, fun w hw => ⟨0, by omega, nI_0.symm⟩, 0, by decide, rfl⟩
  have ht0 : t = 0 := Nat.lt_one_iff.mp ht
  subst ht0
  rfl

