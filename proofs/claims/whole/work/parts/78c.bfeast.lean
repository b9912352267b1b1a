/-! feasts by odds -/
theorem ra_L {x k : Nat} (hx : x < 2 ^ 31) (hk : k ≤ 7) : f_X10_raised (nI x) (nI k) = some (lN (x ^ k)) := by
  unfold f_X10_raised f_X10_raised_5
  refine lq2_inv (fun i a b => a = lN (x ^ i) ∧ b = nI i) (fun o => o = some (lN (x ^ k))) k ?_ smN _ _ (smN_gt (by omega)) ⟨rfl, rfl⟩
  rintro i a b hi ⟨rfl, rfl⟩
  unfold b_X10_raised_5
  simp (disch := omega) only [ile, i1]
  rcases Nat.lt_or_ge i k with h | h
  · left
    refine ⟨lN (x ^ (i + 1)), nI (i + 1), h, ⟨rfl, rfl⟩, fun kk => ?_⟩
    rw [if_neg (by omega), nI_l hx, lN_mul, Nat.pow_succ]
  · right
    obtain rfl : i = k := by omega
    refine ⟨_, rfl, fun kk => ?_⟩
    rw [if_pos (Nat.le_refl _)]
def ihT (u : VS) (n f : Nat) : Nat → VS
  | 0 => u
  | i + 1 => wk (if f.testBit i = true then fsV (ihT u n f i) n else ihT u n f i) n
theorem IV_ihT {n W : Nat} {u : VS} (hI : IV n W u) (f : Nat) : ∀ i, IV n (W + i) (ihT u n f i) := by
  intro i
  induction i with
  | zero => exact hI
  | succ i ih =>
    simp only [ihT]
    have h1 : IV n (W + i) (if f.testBit i = true then fsV (ihT u n f i) n else ihT u n f i) := by
      split
      · exact IV_fsV ih
      · exact ih
    exact IV_wks h1 1
theorem ih_X {u : MS} {n W p k f : Nat} (hI : IV n W (gM_now u)) (hW : W < 2 ^ 20) (ht : AnyV (gM_then u)) (hp : p < 8) (hk : k ≤ 7) (hf : f < 256) : f_X3_isHereBehind u (nI p) (nI k) (nI f) = some (gV_here (ihT (gM_now u) n f k) p, sM_then u (ihT (gM_now u) n f k)) := by
  unfold f_X3_isHereBehind f_X3_isHereBehind_7
  rw [sa_X hI ht, Option.bind_some]
  refine lq2_inv (fun i a b => a = sM_then u (ihT (gM_now u) n f i) ∧ b = nI i) (fun o => o = some (gV_here (ihT (gM_now u) n f k) p, sM_then u (ihT (gM_now u) n f k))) k ?_ smN _ _ (smN_gt (by omega)) ⟨rfl, rfl⟩
  rintro i a b hi ⟨rfl, rfl⟩
  unfold b_X3_isHereBehind_7 f_X3_isHereBehind_30
  have hIi := IV_ihT hI f i
  simp (disch := omega) only [ile, i1]
  rcases Nat.lt_or_ge i k with h | h
  · left
    refine ⟨sM_then u (ihT (gM_now u) n f (i + 1)), nI (i + 1), h, ⟨rfl, rfl⟩, fun kk => ?_⟩
    have hb : f.testBit i = decide (f / 2 ^ i % 2 = 1) := Nat.testBit_eq_decide_div_mod_eq
    have h2 : f / 2 ^ i % 2 < 2 := Nat.mod_lt _ (by decide)
    rw [if_neg (by omega), bit_M i (by omega) f hf]
    simp (disch := omega) only [l1, ieq]
    simp only [ihT]
    by_cases g : f / 2 ^ i % 2 = 1
    · have e1 : f_X8_holdFeast (gM_then (sM_then u (ihT (gM_now u) n f i))) = some (fsV (ihT (gM_now u) n f i) n) := hf_X hIi
      have e2 : f_X8_passWeek (gM_then (sM_then (sM_then u (ihT (gM_now u) n f i)) (fsV (ihT (gM_now u) n f i) n))) = some (wk (fsV (ihT (gM_now u) n f i) n) n) := wk_X (IV_fsV hIi) (by omega)
      rw [if_pos g, e1, Option.bind_some, e2, Option.bind_some, if_pos (by rw [hb]; exact decide_eq_true g)]
      try rfl
    · have e2 : f_X8_passWeek (gM_then (sM_then u (ihT (gM_now u) n f i))) = some (wk (ihT (gM_now u) n f i) n) := wk_X hIi (by omega)
      rw [if_neg g, e2, Option.bind_some, if_neg (by rw [hb, decide_eq_true_eq]; exact g)]
      try rfl
  · right
    obtain rfl : i = k := by omega
    refine ⟨_, rfl, fun kk => ?_⟩
    have e1 : gV_here (gM_then (sM_then u (ihT (gM_now u) n f i))) p = gV_here (ihT (gM_now u) n f i) p := rfl
    rw [if_pos (Nat.le_refl _), ck_ok (by omega) (by decide), icl (by omega), e1, zr01 (hIi.he hp)]
theorem pcT_hi {f k : Nat} (hf : f < 2 ^ k) : ∀ m, pcT f (k + m) = pcT f k := by
  intro m
  induction m with
  | zero => rfl
  | succ m ih =>
    rw [show k + (m + 1) = (k + m) + 1 by omega]
    simp only [pcT]
    rw [ih]
    have : 2 ^ k ≤ 2 ^ (k + m) := Nat.pow_le_pow_right (by decide) (by omega)
    rw [Nat.div_eq_of_lt (by omega), Nat.zero_mod, Nat.add_zero]
theorem pc8_k {f k : Nat} (hf : f < 2 ^ k) (hk : k ≤ 8) : pc8 f = pcT f k := by
  unfold pc8
  have := pcT_hi hf (8 - k)
  rw [show k + (8 - k) = 8 by omega] at this
  exact this
def wyT (u : VS) (n p k t : Nat) : Nat → Nat
  | 0 => 0
  | f + 1 => if gV_here (ihT u n f k) p = 0 then wyT u n p k t f else wyT u n p k t f + (t - 1) ^ (k - pcT f k)
theorem pow_b {t k : Nat} (ht : t ≤ 20) (hk : k ≤ 7) : t ^ k ≤ 1280000000 := by
  have h1 : t ^ k ≤ 20 ^ k := Nat.pow_le_pow_left ht k
  have h2 : 20 ^ k ≤ 20 ^ 7 := Nat.pow_le_pow_right (by decide) hk
  have h3 : 20 ^ 7 = 1280000000 := by decide
  omega
theorem wy_b (u : VS) (n p k t : Nat) (ht : t ≤ 20) (hk : k ≤ 7) : ∀ f, wyT u n p k t f ≤ f * 1280000000 := by
  intro f
  induction f with
  | zero => exact Nat.le_refl _
  | succ f ih =>
    simp only [wyT]
    have := pow_b (t := t - 1) (k := k - pcT f k) (by omega) (by omega)
    rw [Nat.succ_mul]
    split
    · exact Nat.le_trans ih (Nat.le_add_right _ _)
    · exact Nat.add_le_add ih this
theorem wh_X {u : MS} {n W p k t : Nat} (hI : IV n W (gM_now u)) (hW : W < 2 ^ 20) (ha : AnyV (gM_then u)) (hp : p < 8) (hk : k ≤ 7) (ht : 1 ≤ t) (ht2 : t ≤ 20) : ∃ w, AnyV w ∧ f_X3_waysHere u (nI p) (nI k) (nI t) = some (lN (wyT (gM_now u) n p k t (2 ^ k)), sM_then u w) := by
  have h2k : 2 ^ k ≤ 128 := Nat.pow_le_pow_right (n := 2) (by decide) hk
  unfold f_X3_waysHere f_X3_waysHere_6
  refine lq3_inv (fun i a b c => (∃ w, AnyV w ∧ a = sM_then u w) ∧ b = lN (wyT (gM_now u) n p k t i) ∧ c = nI i) (fun o => ∃ w, AnyV w ∧ o = some (lN (wyT (gM_now u) n p k t (2 ^ k)), sM_then u w)) (2 ^ k) ?_ smN _ _ _ (smN_gt (by omega)) ⟨⟨gM_then u, ha, rfl⟩, rfl, rfl⟩
  rintro i a b c hi ⟨⟨w, hw, rfl⟩, rfl, rfl⟩
  unfold b_X3_waysHere_6
  rw [shl1 k (by omega)]
  simp (disch := omega) only [ile, i1]
  rcases Nat.lt_or_ge i (2 ^ k) with h | h
  · left
    have e1 : f_X3_isHereBehind (sM_then u w) (nI p) (nI k) (nI i) = some (gV_here (ihT (gM_now u) n i k) p, sM_then u (ihT (gM_now u) n i k)) := ih_X (u := sM_then u w) hI hW hw hp hk (by omega)
    have hIi := IV_ihT hI i k
    refine ⟨sM_then u (ihT (gM_now u) n i k), lN (wyT (gM_now u) n p k t (i + 1)), nI (i + 1), h, ⟨⟨_, hIi.any, rfl⟩, rfl, rfl⟩, fun kk => ?_⟩
    have hpc : pcT i k ≤ k := pcT_le i k
    rw [if_neg (by omega), e1, Option.bind_some, bc_X i (by omega), Option.bind_some, pc8_k h (by omega), pk_sub hpc, l1, pk_sub ht, ra_L (by omega) (by omega), Option.bind_some, lN_add]
    simp only [wyT]
    split <;> rfl
  · right
    obtain rfl : i = 2 ^ k := by omega
    refine ⟨_, ⟨w, hw, rfl⟩, fun kk => ?_⟩
    rw [if_pos (Nat.le_refl _)]
theorem fe122_M {d : DS} {u : VS} {n W p k t f : Nat} {v4 : Int32} {s al : Int64} (hI : IV n W u) (hR : RV u (gD_m d)) (hp : p < 8) (hk : k ≤ 7) (ht : 1 ≤ t) (ht2 : t ≤ 20) (hf : f < 2 ^ k) (k97 : DS → Int64 → Int64 → Int32 → Option (Int64 × DS)) : ∃ r, f_X11_feast_122 (nI p) (nI k) (nI t) v4 k97 smN d s al (nI f) 1 0 = k97 (sD_m d r) (if gV_here (ihT u n f k) p = 0 then s else s + lN ((t - 1) ^ (k - pcT f k))) al (nI (f + 1)) := by
  have h2k : 2 ^ k ≤ 128 := Nat.pow_le_pow_right (n := 2) (by decide) hk
  unfold f_X11_feast_122
  refine lq6_inw (fun i a b c e g y => (∃ r, RV (ihT u n f i) r ∧ a = sD_m d r) ∧ b = s ∧ c = al ∧ e = nI f ∧ g = lN ((t - 1) ^ (i - pcT f i)) ∧ y = nI i) (fun o => ∃ r, o = k97 (sD_m d r) (if gV_here (ihT u n f k) p = 0 then s else s + lN ((t - 1) ^ (k - pcT f k))) al (nI (f + 1))) k ?_ smN _ _ _ _ _ _ (smN_gt (by omega)) ⟨⟨gD_m d, hR, rfl⟩, rfl, rfl, rfl, rfl, rfl⟩
  rintro i a b c e g y kk hi ⟨⟨r, h1, rfl⟩, rfl, rfl, rfl, rfl, rfl⟩
  unfold b_X11_feast_122
  have hIi := IV_ihT hI f i
  simp (disch := omega) only [ile, i1]
  rcases Nat.lt_or_ge i k with h | h
  · left
    have hb : f.testBit i = decide (f / 2 ^ i % 2 = 1) := Nat.testBit_eq_decide_div_mod_eq
    have h2 : f / 2 ^ i % 2 < 2 := Nat.mod_lt _ (by decide)
    have hpc : pcT f i ≤ i := pcT_le f i
    rw [if_neg (by omega), has_b (by omega) (by omega), Option.bind_some]
    unfold f_X11_feast_148 f_X11_feast_168
    rw [has_b (by omega) (by omega), Option.bind_some, Option.bind_some, i1]
    by_cases g : f.testBit i = true
    · rw [if_pos g, if_neg (show ¬ (1 : Int32) = 0 by decide), if_neg (show ¬ (1 : Int32) = 0 by decide)]
      obtain ⟨r2, g1, g2⟩ := fs_M hIi h1
      obtain ⟨r3, g3, g4⟩ := wk_M (IV_fsV hIi) g1
      have e1 : f_X11_feasts (gD_m (sD_m d r)) = some r2 := g2
      have e2 : f_X11_week (gD_m (sD_m (sD_m d r) r2)) = some r3 := g4
      rw [e1, Option.bind_some, e2, Option.bind_some]
      refine ⟨_, _, _, _, _, _, h, ⟨⟨r3, ?_, rfl⟩, rfl, rfl, rfl, ?_, rfl⟩, rfl⟩
      · simp only [ihT, if_pos g]; exact g3
      · rw [hb, decide_eq_true_eq] at g
        simp only [pcT]
        rw [g, show i + 1 - (pcT f i + 1) = i - pcT f i by omega, show (1 : Int64) = lN 1 from rfl, lN_mul, Nat.mul_one]
    · rw [if_neg g, if_pos rfl, if_pos rfl]
      obtain ⟨r3, g3, g4⟩ := wk_M hIi h1
      have e2 : f_X11_week (gD_m (sD_m d r)) = some r3 := g4
      rw [e2, Option.bind_some]
      refine ⟨_, _, _, _, _, _, h, ⟨⟨r3, ?_, rfl⟩, rfl, rfl, rfl, ?_, rfl⟩, rfl⟩
      · simp only [ihT, if_neg g]; exact g3
      · rw [hb, decide_eq_true_eq] at g
        simp only [pcT]
        rw [show f / 2 ^ i % 2 = 0 by omega, show i + 1 - (pcT f i + 0) = (i - pcT f i) + 1 by omega, l1, pk_sub ht, nI_l (by omega), lN_mul, Nat.pow_succ]
  · right
    obtain rfl : i = k := by omega
    have e1 : f_X11_isHere (gD_m (sD_m d r)) (nI p) = some (gV_here (ihT u n f i) p) := here_M hIi h1 hp
    refine ⟨r, ?_⟩
    rw [if_pos (Nat.le_refl _), e1, Option.bind_some, Int64.add_zero]
    split <;> rfl
theorem fe97_M {d : DS} {u : VS} {n W p k t : Nat} {v4 : Int32} {al : Int64} (hI : IV n W u) (hR : RV u (gD_s d)) (hp : p < 8) (hk : k ≤ 7) (ht : 1 ≤ t) (ht2 : t ≤ 20) : ∃ r, f_X11_feast_97 (nI p) (nI k) (nI t) v4 smN d 0 al 0 = (f_X11_partOf (lN (wyT u n p k t (2 ^ k))) al v4).bind fun z => some (z, sD_m d r) := by
  have h2k : 2 ^ k ≤ 128 := Nat.pow_le_pow_right (n := 2) (by decide) hk
  unfold f_X11_feast_97
  refine lq4_inw (fun i a b c e => (∃ r, a = sD_m d r) ∧ b = lN (wyT u n p k t i) ∧ c = al ∧ e = nI i) (fun o => ∃ r, o = (f_X11_partOf (lN (wyT u n p k t (2 ^ k))) al v4).bind fun z => some (z, sD_m d r)) (2 ^ k) ?_ smN _ _ _ _ (smN_gt (by omega)) ⟨⟨gD_m d, rfl⟩, rfl, rfl, rfl⟩
  rintro i a b c e kk hi ⟨⟨r, rfl⟩, rfl, rfl, rfl⟩
  unfold b_X11_feast_97
  rw [shl1 k (by omega)]
  simp (disch := omega) only [ile]
  rcases Nat.lt_or_ge i (2 ^ k) with h | h
  · left
    have e0 : f_X11_copies (gD_s (sD_m d r), gD_m (sD_m d r)) = some (gD_s d, cpT (gD_s d) r 99) := copies_M _ _
    obtain ⟨r2, e1⟩ := fe122_M (d := sD_m d (cpT (gD_s d) r 99)) (v4 := v4) (s := lN (wyT u n p k t i)) (al := c) hI (RV_cp r hR) hp hk ht ht2 h kk
    refine ⟨sD_m d r2, lN (wyT u n p k t (i + 1)), c, nI (i + 1), h, ⟨⟨r2, rfl⟩, rfl, rfl, rfl⟩, ?_⟩
    rw [if_neg (by omega), e0, Option.bind_some]
    refine Eq.trans e1 ?_
    simp only [wyT, lN_add]
    split <;> rfl
  · right
    obtain rfl : i = 2 ^ k := by omega
    rw [if_pos (Nat.le_refl _)]
    exact ⟨r, rfl⟩
theorem fe75_M {d : DS} {u : VS} {n W p k t : Nat} {v4 : Int32} (hI : IV n W u) (hR : RV u (gD_s d)) (hp : p < 8) (hk : k ≤ 7) (ht : 1 ≤ t) (ht2 : t ≤ 20) : ∃ r, f_X11_feast_75 (nI p) (nI k) (nI t) v4 smN d 0 1 0 = (f_X11_partOf (lN (wyT u n p k t (2 ^ k))) (lN (t ^ k)) v4).bind fun z => some (z, sD_m d r) := by
  unfold f_X11_feast_75
  refine lq4_inv (fun i a b c e => a = d ∧ b = 0 ∧ c = lN (t ^ i) ∧ e = nI i) (fun o => ∃ r, o = (f_X11_partOf (lN (wyT u n p k t (2 ^ k))) (lN (t ^ k)) v4).bind fun z => some (z, sD_m d r)) k ?_ smN _ _ _ _ (smN_gt (by omega)) ⟨rfl, rfl, rfl, rfl⟩
  rintro i a b c e hi ⟨rfl, rfl, rfl, rfl⟩
  unfold b_X11_feast_75
  simp (disch := omega) only [ile, i1]
  rcases Nat.lt_or_ge i k with h | h
  · left
    refine ⟨a, 0, lN (t ^ (i + 1)), nI (i + 1), h, ⟨rfl, rfl, rfl, rfl⟩, fun kk => ?_⟩
    rw [if_neg (by omega), nI_l (by omega), lN_mul, Nat.pow_succ]
  · right
    obtain rfl : i = k := by omega
    obtain ⟨r, e⟩ := fe97_M (v4 := v4) (al := lN (t ^ i)) hI hR hp hk ht ht2
    refine ⟨_, ⟨r, rfl⟩, fun kk => ?_⟩
    rw [if_pos (Nat.le_refl _), e]
theorem m_feast {n W : Nat} {x : XS} {d : DS} (h : XR n W x d) (a b c v : Int32) : OKl (f_X10_feast x a b c v) (f_X11_feast d a b c v) := by
  have hn := h.iv.n8
  have hw := h.w
  have e0 : f_X10_feast x a b c v = f_X10_feast_35 a b c v x (if b < 0 then -4 else if (2 : Int32) ≤ c then 0 else -4) (if (7 : Int32) < b then -6 else if c ≤ (20 : Int32) then 0 else -6) := by
    unfold f_X10_feast f_X10_feast_15
    split
    · split
      · rfl
      · split <;> rfl
    · split
      · split
        · rfl
        · split <;> rfl
      · split
        · rfl
        · split <;> rfl
  rw [e0]
  unfold f_X10_feast_35 f_X11_feast
  obtain ⟨c9, e9⟩ : ∃ c, f_X10_wrongWhat v (1 : Int32) = some c := by
    rcases wwh v (hi := 1) (by decide) with ⟨k, hk, rfl, e3, e4⟩ | ⟨e3, e4, -⟩
    · exact ⟨_, e3⟩
    · exact ⟨_, e3⟩
  rcases nob h a with ⟨p, hp, rfl, e1, e2⟩ | ⟨e1, e2, -⟩
  · rw [e1, e2, Option.bind_some, Option.bind_some, if_neg (show ¬ (1 : Int32) = 0 by decide)]
    have r4 : ∀ q, RC (-4) → OKl ((f_X10_refused___ x 0 (-4) q c9).bind fun z53 => (if z53.1 = 0 then ((f_X3_waysHere (gX_mind z53.2) (nI p) b c).bind fun z78 => ((f_X10_raised c b).bind fun z83 => ((f_X10_partOf z78.1 z83 v).bind fun z88 => (some (z88, (sX_mind z53.2 z78.2)))))) else (some (((4000000000000000000 : Int64) - (Int32.toInt64 z53.1)), z53.2)))) (f_X11_feast_23 d) := by
      intro q hc
      refine OKl_ref h hc ?_ ?_
      · rw [ref4, if_pos rfl, if_neg hc.ne, cnt_c hc, Option.bind_some, if_neg hc.ne]
      · unfold f_X11_feast_23
        rw [nw_M hc, Option.bind_some]
    have r6 : RC (-6) → OKl ((f_X10_refused___ x 0 0 (-6) c9).bind fun z53 => (if z53.1 = 0 then ((f_X3_waysHere (gX_mind z53.2) (nI p) b c).bind fun z78 => ((f_X10_raised c b).bind fun z83 => ((f_X10_partOf z78.1 z83 v).bind fun z88 => (some (z88, (sX_mind z53.2 z78.2)))))) else (some (((4000000000000000000 : Int64) - (Int32.toInt64 z53.1)), z53.2)))) (f_X11_feast_42 d) := by
      intro hc
      refine OKl_ref h hc ?_ ?_
      · rw [ref4, if_pos rfl, if_pos rfl, if_neg hc.ne, cnt_c hc, Option.bind_some, if_neg hc.ne]
      · unfold f_X11_feast_42
        rw [nw_M hc, Option.bind_some]
    by_cases g1 : b < 0
    · rw [if_pos g1, if_pos g1, e9, Option.bind_some]
      exact r4 _ rc4
    rw [if_neg g1, if_neg g1]
    by_cases g2 : (2 : Int32) ≤ c
    · rw [if_pos g2, if_pos g2]
      by_cases g3 : (7 : Int32) < b
      · rw [if_pos g3, if_pos g3, e9, Option.bind_some]
        exact r6 rc6
      rw [if_neg g3, if_neg g3]
      by_cases g4 : c ≤ (20 : Int32)
      · rw [if_pos g4, if_pos g4]
        obtain ⟨k, hk, rfl⟩ : ∃ k, k ≤ 7 ∧ b = nI k := by
          obtain ⟨k, hk, rfl⟩ := nI_of g1
          refine ⟨k, ?_, rfl⟩
          rw [show (7 : Int32) = nI 7 from rfl, ilt (by decide) hk] at g3
          omega
        obtain ⟨t, ht1, ht2, rfl⟩ : ∃ t, 2 ≤ t ∧ t ≤ 20 ∧ c = nI t := by
          have g5 : ¬ c < 0 := by
            intro q
            have : (2 : Int32) < 0 := Int32.lt_of_le_of_lt g2 q
            exact absurd this (by decide)
          obtain ⟨t, ht, rfl⟩ := nI_of g5
          rw [l2, ile (by decide) ht] at g2
          rw [show (20 : Int32) = nI 20 from rfl, ile ht (by decide)] at g4
          exact ⟨t, g2, g4, rfl⟩
        rcases wwh v (hi := 1) (by decide) with ⟨j, hj, rfl, e3, e4⟩ | ⟨e3, e4, -⟩
        · have e3 : f_X10_wrongWhat (nI j) (1 : Int32) = some 0 := e3
          have e4 : f_X11_isIn (nI j) (0 : Int32) (1 : Int32) = some 1 := e4
          rw [e3, e4, Option.bind_some, Option.bind_some, if_neg (show ¬ (1 : Int32) = 0 by decide), ref4, if_pos rfl, if_pos rfl, cnt_0, Option.bind_some, if_pos rfl]
          obtain ⟨w, hwv, e5⟩ := wh_X (u := gX_mind x) (p := p) (k := k) (t := t) h.iv (by omega) h.th (by omega) hk (by omega) ht2
          obtain ⟨r, e6⟩ := fe75_M (v4 := nI j) (p := p) (k := k) (t := t) h.iv h.rv (by omega) hk (by omega) ht2
          have h2k : 2 ^ k ≤ 128 := Nat.pow_le_pow_right (n := 2) (by decide) hk
          have b1 := wy_b (xNow x) n p k t ht2 hk (2 ^ k)
          have b2 := pow_b ht2 hk
          have b3 : 0 < t ^ k := Nat.pow_pos (by omega)
          have e5 : f_X3_waysHere (gX_mind (((0 : Int32), x)).2) (nI p) (nI k) (nI t) = some (lN (wyT (xNow x) n p k t (2 ^ k)), sM_then (gX_mind x) w) := e5
          have b4 : 2 ^ k * 1280000000 ≤ 128 * 1280000000 := Nat.mul_le_mul h2k (Nat.le_refl _)
          have q0 := po_M (a := wyT (xNow x) n p k t (2 ^ k)) (b := t ^ k) (k := j) (by omega) (by omega) (Or.inr b3) hj
          rw [show (if 1 < t ^ k then t ^ k else 1) = t ^ k by split <;> omega] at q0
          refine ⟨lN (prt (wyT (xNow x) n p k t (2 ^ k)) (t ^ k) j), _, sD_m d r, n, W, ?_, ?_, XR_then h hwv r⟩
          · rw [e5, Option.bind_some, ra_L (by omega) hk, Option.bind_some, po_X (by omega) (by omega) b3 hj, Option.bind_some]
          · rw [e6, q0, Option.bind_some]
        · have e3 : f_X10_wrongWhat v (1 : Int32) = some (-2) := e3
          have e4 : f_X11_isIn v (0 : Int32) (1 : Int32) = some 0 := e4
          rw [e3, e4, Option.bind_some, Option.bind_some, if_pos rfl]
          refine OKl_ref h rc2 ?_ ?_
          · rw [ref4, if_pos rfl, if_pos rfl, if_pos rfl, cnt_c rc2, Option.bind_some, if_neg rc2.ne]
          · rw [nw_M rc2, Option.bind_some]
      · rw [if_neg g4, if_neg g4, e9, Option.bind_some]
        exact r6 rc6
    · rw [if_neg g2, if_neg g2, e9, Option.bind_some]
      exact r4 _ rc4
  · rw [e1, e2, Option.bind_some, Option.bind_some, if_pos rfl, e9, Option.bind_some]
    refine OKl_ref h rc1 ?_ ?_
    · rw [ref4, if_neg (show ¬ (-1 : Int32) = 0 by decide), if_neg (show ¬ (-1 : Int32) = 0 by decide), cnt_c rc1, Option.bind_some, if_neg rc1.ne]
    · rw [nw_M rc1, Option.bind_some]
