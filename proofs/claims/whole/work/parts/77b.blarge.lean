/-! the largest league -/
def bN (P : Nat → Bool) : Nat → Nat
  | 0 => 0
  | i + 1 => if P i = true then bN P i + 2 ^ i else bN P i
theorem bN_lt (P : Nat → Bool) : ∀ i, bN P i < 2 ^ i := by
  intro i
  induction i with
  | zero => exact Nat.one_pos
  | succ i ih =>
    simp only [bN]
    rw [Nat.pow_succ]
    split <;> omega
theorem bN_bit (P : Nat → Bool) : ∀ n i, (bN P n).testBit i = (decide (i < n) && P i) := by
  intro n
  induction n with
  | zero => intro i; simp [bN]
  | succ n ih =>
    intro i
    have hl := bN_lt P n
    simp only [bN]
    cases g : P n with
    | false =>
      rw [if_neg (by decide), ih]
      by_cases h : i = n
      · subst h; simp [g]
      · have : (i < n + 1) = (i < n) := propext (by omega)
        simp only [this]
    | true =>
      rw [if_pos rfl, Nat.add_comm]
      rcases Nat.lt_trichotomy i n with h | h | h
      · rw [Nat.testBit_two_pow_add_gt h, ih]
        simp [h, show i < n + 1 by omega]
      · subst h
        rw [Nat.testBit_two_pow_add_eq, Nat.testBit_lt_two_pow hl]
        simp [g]
      · have e : 2 ^ (n + 1) ≤ 2 ^ i := Nat.pow_le_pow_right (by decide) (by omega)
        have e2 : 2 ^ (n + 1) = 2 ^ n + 2 ^ n := by rw [Nat.pow_succ]; omega
        rw [Nat.testBit_lt_two_pow (by omega)]
        simp [show ¬ i < n + 1 by omega]
abbrev Lg (u : VS) (i j : Nat) : Prop := ¬ gV_mem u (8 * i + j) < 50 ∧ ¬ gV_mem u (8 * j + i) < 50
def lgP (u : VS) (p j : Nat) : Bool := decide (¬ p = j ∧ ¬ gV_here u j = 0 ∧ Lg u p j)
theorem lgT_N (u : VS) (p : Nat) : ∀ i, i ≤ 8 → lgT u p i = nI (bN (lgP u p) i) := by
  intro i
  induction i with
  | zero => intro _; rfl
  | succ i ih =>
    intro hi
    have hl := bN_lt (lgP u p) i
    have h8 := pow_le8 (i := i) (by omega)
    simp only [lgT, bN]
    rw [ih (by omega)]
    by_cases g : ¬ p = i ∧ ¬ gV_here u i = 0 ∧ Lg u p i
    · rw [if_neg g.1, if_neg g.2.1, if_neg g.2.2.1, if_neg g.2.2.2, if_pos (by unfold lgP; exact decide_eq_true g), or_bit i (by omega) _ (by omega) hl]
    · rw [if_neg (show ¬ lgP u p i = true by unfold lgP; rw [decide_eq_true_eq]; exact g)]
      by_cases g1 : p = i
      · rw [if_pos g1]
      rw [if_neg g1]
      by_cases g2 : gV_here u i = 0
      · rw [if_pos g2]
      rw [if_neg g2]
      by_cases g3 : gV_mem u (8 * p + i) < 50
      · rw [if_pos g3]
      rw [if_neg g3]
      by_cases g4 : gV_mem u (8 * i + p) < 50
      · rw [if_pos g4]
      exact absurd ⟨g1, g2, g3, g4⟩ g
theorem lg_X0 {u : VS} {n W p : Nat} (hI : IV n W u) (hp : p < n) (h1 : gV_here u p = 0) : f_X8_leagueOf u (nI p) = some 0 := by
  unfold f_X8_leagueOf f_X8_leagueOf_4
  have hn := hI.n8
  refine lq2_inv (fun i a b => a = 0 ∧ b = nI i) (fun o => o = some 0) n ?_ smN _ _ (smN_gt (by omega)) ⟨rfl, rfl⟩
  rintro i a b hi ⟨rfl, rfl⟩
  unfold b_X8_leagueOf_4
  rw [hI.pe]
  simp (disch := omega) only [ile, i1]
  rcases Nat.lt_or_ge i n with h | h
  · left
    refine ⟨0, nI (i + 1), h, ⟨rfl, rfl⟩, fun k => ?_⟩
    have e : f_X8_areTwoHere u (nI p) (nI i) = some 0 := by
      unfold f_X8_areTwoHere
      rw [ish_X hI hp, Option.bind_some, if_pos h1]
      exact ite_self _
    rw [if_neg (by omega), e, Option.bind_some, if_pos rfl]
  · right
    obtain rfl : i = n := by omega
    refine ⟨_, rfl, fun k => ?_⟩
    rw [if_pos (Nat.le_refl _)]
theorem shl1 : ∀ i, i < 9 → (1 : Int32) <<< (nI i &&& 31) = nI (2 ^ i) := by decide
theorem allb (j : Nat) (hj : j < 32) : (-1 : Int32).toBitVec.getLsbD j = true := by
  rw [show (-1 : Int32).toBitVec = BitVec.allOnes 32 from by decide, BitVec.getLsbD_allOnes]
  exact decide_eq_true hj
theorem andz {m : Nat} (hm : m < 256) (z : Int32) : (nI m &&& z = 0) ↔ ∀ j, j < 8 → m.testBit j = true → z.toBitVec.getLsbD j = false := by
  rw [← Int32.toBitVec_inj, Int32.toBitVec_and]
  constructor
  · intro h j hj hb
    have := congrArg (fun b : BitVec 32 => b.getLsbD j) h
    simp only [BitVec.getLsbD_and] at this
    rw [getN (by omega), hb, Bool.true_and] at this
    rw [this, show (0 : Int32).toBitVec = 0#32 from rfl, BitVec.getLsbD_zero]
  · intro h
    apply BitVec.eq_of_getLsbD_eq
    intro j hj
    rw [BitVec.getLsbD_and, getN (by omega), show (0 : Int32).toBitVec = 0#32 from rfl, BitVec.getLsbD_zero]
    cases hb : m.testBit j with
    | false => rfl
    | true =>
      rw [Bool.true_and]
      refine h j ?_ hb
      rcases Nat.lt_or_ge j 8 with q | q
      · exact q
      · have e : 2 ^ 8 ≤ 2 ^ j := Nat.pow_le_pow_right (by decide) q
        rw [Nat.testBit_lt_two_pow (by omega)] at hb
        cases hb
theorem not_b (z : Int32) {j : Nat} (hj : j < 8) : (z ^^^ (-1 : Int32)).toBitVec.getLsbD j = !z.toBitVec.getLsbD j := by
  rw [Int32.toBitVec_xor, BitVec.getLsbD_xor, allb j (by omega), Bool.xor_true]
theorem and_bit {m i : Nat} (hm : m < 256) (hi : i < 8) : (nI m &&& ((1 : Int32) <<< (nI i &&& 31)) = 0) ↔ m.testBit i = false := by
  rw [shl1 i (by omega), andz hm]
  have h2 : 2 ^ i ≤ 256 := pow_le8 (by omega)
  constructor
  · intro h
    cases hb : m.testBit i with
    | false => rfl
    | true =>
      have := h i hi hb
      rw [getN (by omega), Nat.testBit_two_pow_self] at this
      cases this
  · intro h j hj hb
    rw [getN (by omega), Nat.testBit_two_pow]
    rw [decide_eq_false_iff_not]
    intro e
    rw [← e, h] at hb
    cases hb
theorem and_lg {m i L : Nat} (hm : m < 256) (hi : i < 8) (hL : L < 256) : (nI m &&& ((nI L ||| ((1 : Int32) <<< (nI i &&& 31))) ^^^ (-1 : Int32)) = 0) ↔ ∀ j, j < 8 → m.testBit j = true → L.testBit j = true ∨ i = j := by
  have h2 : 2 ^ i ≤ 256 := pow_le8 (by omega)
  rw [shl1 i (by omega), andz hm]
  have key : ∀ j, j < 8 → (((nI L ||| nI (2 ^ i)) ^^^ (-1 : Int32)).toBitVec.getLsbD j = false ↔ (L.testBit j = true ∨ i = j)) := by
    intro j hj
    rw [not_b _ hj, Int32.toBitVec_or, BitVec.getLsbD_or, getN (by omega), getN (by omega), Nat.testBit_two_pow]
    cases L.testBit j <;> simp
  constructor
  · intro h j hj hb; exact (key j hj).mp (h j hj hb)
  · intro h j hj hb; exact (key j hj).mpr (h j hj hb)
theorem and_nb {m k : Nat} (hm : m < 256) (hk : k < 256) : (nI m &&& (nI k ^^^ (-1 : Int32)) = 0) ↔ ∀ j, j < 8 → m.testBit j = true → k.testBit j = true := by
  rw [andz hm]
  have key : ∀ j, j < 8 → ((nI k ^^^ (-1 : Int32)).toBitVec.getLsbD j = false ↔ k.testBit j = true) := by
    intro j hj
    rw [not_b _ hj, getN (by omega)]
    cases k.testBit j <;> simp
  constructor
  · intro h j hj hb; exact (key j hj).mp (h j hj hb)
  · intro h j hj hb; exact (key j hj).mpr (h j hj hb)
/-- a set that is a league -/
abbrev LGp (u : VS) (n m : Nat) : Prop := (∀ i, i < n → m.testBit i = true → ¬ gV_here u i = 0) ∧ (∀ i j, i < n → j < i → m.testBit i = true → m.testBit j = true → Lg u i j)
abbrev Bst (u : VS) (n m b : Nat) : Prop := (b = 0 ∨ b < m) ∧ LGp u n b ∧ (∀ s, s < m → LGp u n s → pc8 s ≤ pc8 b) ∧ (∀ s, s < b → LGp u n s → pc8 s < pc8 b)
theorem Bst_un {u : VS} {n m b b' : Nat} (h : Bst u n m b) (h' : Bst u n m b') : b = b' := by
  rcases Nat.lt_trichotomy b b' with k | k | k
  · exfalso
    have h1 := h.2.2.1 b' (by have := h'.1; omega) h'.2.1
    have h2 := h'.2.2.2 b k h.2.1
    omega
  · exact k
  · exfalso
    have h1 := h'.2.2.1 b (by have := h.1; omega) h.2.1
    have h2 := h.2.2.2 b' k h'.2.1
    omega
theorem Bst_no {u : VS} {n m b : Nat} (h : Bst u n m b) (g : ¬ (pc8 b < pc8 m ∧ LGp u n m)) : Bst u n (m + 1) b := by
  refine ⟨by have := h.1; omega, h.2.1, fun s hs hl => ?_, h.2.2.2⟩
  rcases Nat.lt_or_ge s m with q | q
  · exact h.2.2.1 s q hl
  · obtain rfl : s = m := by omega
    rcases Nat.lt_or_ge (pc8 b) (pc8 s) with q2 | q2
    · exact absurd ⟨q2, hl⟩ g
    · exact q2
theorem Bst_yes {u : VS} {n m b : Nat} (h : Bst u n m b) (g : pc8 b < pc8 m) (hl : LGp u n m) : Bst u n (m + 1) m := by
  refine ⟨by omega, hl, fun s hs hl' => ?_, fun s hs hl' => ?_⟩
  · rcases Nat.lt_or_ge s m with q | q
    · have := h.2.2.1 s q hl'; omega
    · obtain rfl : s = m := by omega
      exact Nat.le_refl _
  · have := h.2.2.1 s hs hl'; omega
theorem LG0 (u : VS) (n : Nat) : LGp u n 0 := by
  refine ⟨fun i _ h => ?_, fun i j _ _ h => ?_⟩ <;> (rw [Nat.zero_testBit] at h; cases h)
theorem bit_lt {n m j : Nat} (hm : m < 2 ^ n) (h : m.testBit j = true) : j < n := by
  rcases Nat.lt_or_ge j n with q | q
  · exact q
  · have e : 2 ^ n ≤ 2 ^ j := Nat.pow_le_pow_right (by decide) q
    rw [Nat.testBit_lt_two_pow (by omega)] at h
    cases h
theorem LG_sub {u : VS} {n m : Nat} (hm : m < 2 ^ n) (h : LGp u n m) : m ≤ hbN u n := by
  have e : m &&& hbN u n = m := by
    apply Nat.eq_of_testBit_eq
    intro i
    rw [Nat.testBit_and]
    cases hb : m.testBit i with
    | false => rfl
    | true =>
      rw [Bool.true_and, hb_bit]
      have hi := bit_lt hm hb
      simp [hi, h.1 i hi hb]
  rw [← e]
  exact Nat.and_le_right
theorem Bst_up {u : VS} {n b : Nat} (h : Bst u n (hbN u n + 1) b) : Bst u n (2 ^ n) b := by
  have hl := hbN_lt u n
  refine ⟨by have := h.1; omega, h.2.1, fun s hs hg => ?_, h.2.2.2⟩
  exact h.2.2.1 s (by have := LG_sub hs hg; omega) hg
/-- one's place in a set, as the class looks -/
abbrev CL (u : VS) (n m i : Nat) : Prop := m.testBit i = true → (¬ gV_here u i = 0 ∧ ∀ j, j < 8 → m.testBit j = true → (bN (lgP u i) n).testBit j = true ∨ i = j)
theorem CL_LG {u : VS} {n m : Nat} (hn : n ≤ 8) (hm : m < 2 ^ n) : (∀ i, i < n → CL u n m i) ↔ LGp u n m := by
  constructor
  · intro h
    refine ⟨fun i hi hb => (h i hi hb).1, fun i j hi hj hb hb2 => ?_⟩
    rcases (h i hi hb).2 j (by omega) hb2 with q | q
    · rw [bN_bit] at q
      have := (Bool.and_eq_true_iff.mp q).2
      unfold lgP at this
      exact (of_decide_eq_true this).2.2
    · omega
  · intro h i hi hb
    refine ⟨h.1 i hi hb, fun j hj hb2 => ?_⟩
    have hjn := bit_lt hm hb2
    rcases Nat.lt_trichotomy i j with q | q | q
    · left
      have l := h.2 j i hjn q hb2 hb
      rw [bN_bit]
      simp only [hjn, decide_true, Bool.true_and]
      exact decide_eq_true ⟨by omega, h.1 j hjn hb2, l.2, l.1⟩
    · exact Or.inr q
    · left
      have l := h.2 i j hi q hb hb2
      rw [bN_bit]
      simp only [hjn, decide_true, Bool.true_and]
      exact decide_eq_true ⟨by omega, h.1 j hjn hb2, l.1, l.2⟩
abbrev Vl (v : Int32) (P : Prop) : Prop := (v = 1 ∧ P) ∨ (v = 0 ∧ ¬ P)
theorem Vl_ex (P : Prop) : ∃ v, Vl v P := by
  rcases Classical.em P with h | h
  · exact ⟨1, Or.inl ⟨rfl, h⟩⟩
  · exact ⟨0, Or.inr ⟨rfl, h⟩⟩
theorem il_X {u : MS} {n W m : Nat} (hI : IV n W (gM_now u)) (hl : ∀ i, i < n → ¬ gV_here (gM_now u) i = 0 → gM_lg u i = lgT (gM_now u) i n) (hm : m < 2 ^ n) : ∃ v, f_X3_isLeague u (nI m) = some v ∧ Vl v (LGp (gM_now u) n m) := by
  have hn := hI.n8
  have h256 : m < 256 := Nat.lt_of_lt_of_le hm (pow_le8 hn)
  rw [← propext (CL_LG hn hm)]
  unfold f_X3_isLeague f_X3_isLeague_2
  refine lq1_inv (fun i a => a = nI i ∧ ∀ i', i' < i → CL (gM_now u) n m i') (fun o => ∃ v, o = some v ∧ Vl v (∀ i, i < n → CL (gM_now u) n m i)) n ?_ smN _ (smN_gt (by omega)) ⟨rfl, fun i h => by omega⟩
  rintro i a hi ⟨rfl, hc⟩
  unfold b_X3_isLeague_2
  rw [hI.pe]
  simp (disch := omega) only [ile]
  rcases Nat.lt_or_ge i n with h | h
  · have hi8 : i < 8 := by omega
    have nx : CL (gM_now u) n m i → ∀ i', i' < i + 1 → CL (gM_now u) n m i' := by
      intro g i' hi'
      rcases Nat.lt_or_ge i' i with q | q
      · exact hc i' q
      · obtain rfl : i' = i := by omega
        exact g
    unfold f_X3_isLeague_28
    simp (disch := omega) only [ck_ok, icl, i1]
    cases hb : m.testBit i with
    | false =>
      left
      refine ⟨nI (i + 1), h, ⟨rfl, nx (fun e => by rw [hb] at e; cases e)⟩, fun k => ?_⟩
      rw [if_neg (by omega), if_pos ((and_bit h256 hi8).mpr hb), if_pos trivial]
    | true =>
      have hb' : ¬ (nI m &&& ((1 : Int32) <<< (nI i &&& 31)) = 0) := by
        rw [and_bit h256 hi8, hb]; decide
      by_cases g : gV_here (gM_now u) i = 0
      · right
        refine ⟨_, ⟨0, rfl, Or.inr ⟨rfl, fun q => (q i h hb).1 g⟩⟩, fun k => ?_⟩
        rw [if_neg (by omega), if_neg hb', if_neg (show ¬ (1 : Int32) = 0 by decide), if_pos g]
      · have hL := bN_lt (lgP (gM_now u) i) n
        have hL8 : bN (lgP (gM_now u) i) n < 256 := Nat.lt_of_lt_of_le hL (pow_le8 hn)
        have e1 := and_lg h256 hi8 hL8
        have e2 := hl i h g
        rw [lgT_N _ _ n hn] at e2
        rw [e2]
        by_cases g2 : nI m &&& ((nI (bN (lgP (gM_now u) i) n) ||| ((1 : Int32) <<< (nI i &&& 31))) ^^^ (-1 : Int32)) = 0
        · left
          refine ⟨nI (i + 1), h, ⟨rfl, nx (fun _ => ⟨g, e1.mp g2⟩)⟩, fun k => ?_⟩
          rw [if_neg (by omega), if_neg hb', if_neg (show ¬ (1 : Int32) = 0 by decide), if_neg g, if_pos g2]
        · right
          refine ⟨_, ⟨0, rfl, Or.inr ⟨rfl, fun q => g2 (e1.mpr (q i h hb).2)⟩⟩, fun k => ?_⟩
          rw [if_neg (by omega), if_neg hb', if_neg (show ¬ (1 : Int32) = 0 by decide), if_neg g, if_neg g2]
  · right
    obtain rfl : i = n := by omega
    refine ⟨_, ⟨1, rfl, Or.inl ⟨rfl, hc⟩⟩, fun k => ?_⟩
    rw [if_pos (Nat.le_refl _)]
theorem ll37_X {u : MS} {n W : Nat} (hI : IV n W (gM_now u)) (hl : ∀ i, i < n → ¬ gV_here (gM_now u) i = 0 → gM_lg u i = lgT (gM_now u) i n) : ∃ b, Bst (gM_now u) n (2 ^ n) b ∧ f_X3_largestLeague_37 smN u 0 1 = some (nI b, u) := by
  have hn := hI.n8
  have hp := pow_le8 hn
  have hp1 : 0 < 2 ^ n := Nat.pow_pos (by decide)
  unfold f_X3_largestLeague_37
  refine lq3_inv (fun i a b c => a = u ∧ (∃ s, b = nI s ∧ Bst (gM_now u) n (i + 1) s) ∧ c = nI (i + 1)) (fun o => ∃ b, Bst (gM_now u) n (2 ^ n) b ∧ o = some (nI b, u)) (2 ^ n - 1) ?_ smN _ _ _ (smN_gt (by omega)) ⟨rfl, ⟨0, rfl, Or.inl rfl, LG0 _ _, fun s hs _ => by rw [show s = 0 by omega]; exact Nat.le_refl _, fun s hs => by omega⟩, rfl⟩
  rintro i a b c hi ⟨rfl, ⟨s, rfl, hB⟩, rfl⟩
  unfold b_X3_largestLeague_37
  have hs : s < 256 := by have := hB.1; omega
  have hp1 := pc8_le s
  have hp2 := pc8_le (i + 1)
  rw [hI.pe, shl1 n (by omega)]
  simp (disch := omega) only [ile, i1]
  rcases Nat.lt_or_ge (i + 1) (2 ^ n) with h | h
  · left
    obtain ⟨v, e1, e2⟩ := il_X hI hl h
    rw [bc_X (i + 1) (by omega), bc_X s hs, e1]
    by_cases g : pc8 (i + 1) ≤ pc8 s
    · refine ⟨a, nI s, nI (i + 1 + 1), by omega, ⟨rfl, ⟨s, rfl, Bst_no hB (fun q => by omega)⟩, rfl⟩, fun k => ?_⟩
      rw [if_neg (by omega), Option.bind_some, Option.bind_some]
      simp (disch := omega) only [ile]
      rw [if_pos g]
    · rcases e2 with ⟨rfl, e2⟩ | ⟨rfl, e2⟩
      · refine ⟨a, nI (i + 1), nI (i + 1 + 1), by omega, ⟨rfl, ⟨i + 1, rfl, Bst_yes hB (by omega) e2⟩, rfl⟩, fun k => ?_⟩
        rw [if_neg (by omega), Option.bind_some, Option.bind_some]
        simp (disch := omega) only [ile]
        rw [if_neg g, Option.bind_some, if_neg (show ¬ (1 : Int32) = 0 by decide)]
      · refine ⟨a, nI s, nI (i + 1 + 1), by omega, ⟨rfl, ⟨s, rfl, Bst_no hB (fun q => e2 q.2)⟩, rfl⟩, fun k => ?_⟩
        rw [if_neg (by omega), Option.bind_some, Option.bind_some]
        simp (disch := omega) only [ile]
        rw [if_neg g, Option.bind_some, if_pos rfl]
  · right
    have e : i + 1 = 2 ^ n := by omega
    rw [e] at hB
    refine ⟨_, ⟨s, hB, rfl⟩, fun k => ?_⟩
    rw [if_pos h]
theorem ll_X {u : MS} {n W : Nat} (hI : IV n W (gM_now u)) : ∃ b l, Bst (gM_now u) n (2 ^ n) b ∧ f_X3_largestLeague u = some (nI b, sM_lg u l) := by
  have hn := hI.n8
  unfold f_X3_largestLeague f_X3_largestLeague_2
  refine lq2_inv (fun i a b => (∃ l, a = sM_lg u l ∧ ∀ j, j < i → ¬ gV_here (gM_now u) j = 0 → l j = lgT (gM_now u) j n) ∧ b = nI i) (fun o => ∃ b l, Bst (gM_now u) n (2 ^ n) b ∧ o = some (nI b, sM_lg u l)) n ?_ smN _ _ (smN_gt (by omega)) ⟨⟨gM_lg u, rfl, fun j h => by omega⟩, rfl⟩
  rintro i a b hi ⟨⟨l, rfl, hl⟩, rfl⟩
  unfold b_X3_largestLeague_2
  have e1 : gV_people (gM_now (sM_lg u l)) = nI n := hI.pe
  rw [e1]
  simp (disch := omega) only [ile, i1, icl]
  rcases Nat.lt_or_ge i n with h | h
  · left
    by_cases g : gV_here (gM_now u) i = 0
    · have e2 : f_X8_leagueOf (gM_now (sM_lg u l)) (nI i) = some 0 := lg_X0 hI h g
      refine ⟨sM_lg u (upd l i 0), nI (i + 1), h, ⟨⟨_, rfl, fun j hj hh => ?_⟩, rfl⟩, fun k => ?_⟩
      · by_cases q : j = i
        · subst q; exact absurd g hh
        · rw [un q]; exact hl j (by omega) hh
      · rw [if_neg (by omega), e2, Option.bind_some, ck_ok (by omega) (by decide)]
        try rfl
    · have e2 : f_X8_leagueOf (gM_now (sM_lg u l)) (nI i) = some (lgT (gM_now u) i n) := lg_X hI h g
      refine ⟨sM_lg u (upd l i (lgT (gM_now u) i n)), nI (i + 1), h, ⟨⟨_, rfl, fun j hj hh => ?_⟩, rfl⟩, fun k => ?_⟩
      · by_cases q : j = i
        · subst q; exact us
        · rw [un q]; exact hl j (by omega) hh
      · rw [if_neg (by omega), e2, Option.bind_some, ck_ok (by omega) (by decide)]
        try rfl
  · right
    obtain rfl : i = n := by omega
    obtain ⟨b, g1, g2⟩ := ll37_X (u := sM_lg u l) hI hl
    refine ⟨_, ⟨b, l, g1, rfl⟩, fun k => ?_⟩
    rw [if_pos (Nat.le_refl _), g2]
