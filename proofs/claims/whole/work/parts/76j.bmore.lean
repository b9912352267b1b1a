theorem lr_M {d : DS} {u : VS} {n W p : Nat} (hI : IV n W u) (hR : RV u (gD_s d)) (hp : p < n) : f_X11_envy_22 (nI p) smN d (-9) 0 = some (lrT u p n, d) := by
  unfold f_X11_envy_22
  have hn := hI.n8
  refine lq3_inv (fun i z a b => z = d ∧ a = lrT u p i ∧ b = nI i) (fun o => o = some (lrT u p n, d)) n ?_ smN _ _ _ (smN_gt (by omega)) ⟨rfl, rfl, rfl⟩
  rintro i z a b hi ⟨rfl, rfl, rfl⟩
  unfold b_X11_envy_22
  simp only [ck0, cl0, hR.pe.trans hI.pe]
  rcases Nat.lt_or_ge i n with h | h
  · left
    have hp8 : p < 8 := by omega
    have hi8 : i < 8 := by omega
    refine ⟨z, lrT u p (i + 1), nI (i + 1), h, ⟨rfl, rfl, rfl⟩, fun k => ?_⟩
    rw [here_M hI hR hi8, f_by p i]
    simp (disch := omega) only [ile, ieq, i1, Option.bind_some, ck_ok, icl, hR.me hp8 hi8]
    rw [if_neg (by omega)]
    simp only [lrT]
    by_cases g1 : p = i
    · rw [if_pos g1, if_pos g1.symm]
    · rw [if_neg g1, if_neg (fun e => g1 e.symm)]
      by_cases g2 : gV_here u i = 0
      · rw [if_pos g2, if_pos g2]
      · rw [if_neg g2, if_neg g2]
        rcases lrT_in u p i (by omega) with g3 | ⟨q, hq, g3⟩
        · rw [g3, if_pos m9_neg, if_pos rfl]
        · rw [g3, if_neg (nI_pos (by omega)), if_neg (nI_ne_m9 (by omega)), f_by p q, Option.bind_some, ck_ok (by omega) (by decide), icl (by omega), icl (by omega), hR.me hp8 (show q < 8 by omega)]
          split <;> rfl
  · right
    obtain rfl : i = n := by omega
    refine ⟨_, rfl, fun k => ?_⟩
    simp (disch := omega) only [ile]
    rw [if_pos (Nat.le_refl _)]
theorem m_envy {n W : Nat} {x : XS} {d : DS} (h : XR n W x d) (a : Int32) : OKi (f_X10_envy x a) (f_X11_envy d a) := by
  unfold f_X10_envy f_X11_envy
  rcases won h a with ⟨p, hp, rfl, g, e1, e2, e3⟩ | ⟨c, hc, e3, c1, c2, e1, e2, e4⟩
  · have e : f_X8_leastRemembered (gM_now (gX_mind (((0 : Int32), x)).2)) (nI p) = some (lrT (xNow x) p n) := lr_X h.iv hp g
    refine ⟨lrT (xNow x) p n, x, d, n, W, ?_, ?_, h⟩
    · rw [e1, e2, Option.bind_some, Option.bind_some, ref2, if_pos rfl, cnt_0, Option.bind_some, if_pos rfl, e, Option.bind_some]
    · rw [e3, Option.bind_some, if_pos rfl, lr_M h.iv h.rv hp]
  · refine OK_ref h hc ?_ ?_
    · rw [e1, e2, Option.bind_some, Option.bind_some, ref2, e4, cnt_c hc, Option.bind_some, if_neg hc.ne]
    · rw [e3, Option.bind_some, if_neg hc.ne, no_M hc, Option.bind_some]
def OKr (fx fd : Option Int32) : Prop := ∃ r, fx = some r ∧ fd = some r
/-- all that is owed, of the first i -/
def owT (u : VS) : Nat → Int32
  | 0 => 0
  | i + 1 => owT u i + gV_owed u i
theorem ow_X {u : VS} {n W : Nat} (hI : IV n W u) : f_X8_owedTogether u = some (owT u n) := by
  unfold f_X8_owedTogether f_X8_owedTogether_4
  have hn := hI.n8
  refine lq2_inv (fun i a b => a = owT u i ∧ b = nI i) (fun o => o = some (owT u n)) n ?_ smN _ _ (smN_gt (by omega)) ⟨rfl, rfl⟩
  rintro i a b hi ⟨rfl, rfl⟩
  unfold b_X8_owedTogether_4
  rw [hI.pe]
  rcases Nat.lt_or_ge i n with h | h
  · left
    refine ⟨owT u (i + 1), nI (i + 1), h, ⟨rfl, rfl⟩, fun k => ?_⟩
    simp (disch := omega) only [ile, icl, ck_ok, i1]
    rw [if_neg (by omega)]
    rfl
  · right
    obtain rfl : i = n := by omega
    refine ⟨_, rfl, fun k => ?_⟩
    simp (disch := omega) only [ile]
    rw [if_pos (Nat.le_refl _)]
theorem ow_M {d : DS} {u : VS} {n W : Nat} (hI : IV n W u) (hR : RV u (gD_s d)) : f_X11_count_104 d smN 0 0 = some (owT u n) := by
  unfold f_X11_count_104
  have hn := hI.n8
  refine lq2_inv (fun i a b => a = owT u i ∧ b = nI i) (fun o => o = some (owT u n)) n ?_ smN _ _ (smN_gt (by omega)) ⟨rfl, rfl⟩
  rintro i a b hi ⟨rfl, rfl⟩
  unfold b_X11_count_104
  simp only [ck0, cl0, hR.pe.trans hI.pe]
  rcases Nat.lt_or_ge i n with h | h
  · left
    have hi8 : i < 8 := by omega
    have e3 : f_X11_of (nI i) (3 : Int32) = some (nI (3 + 4 * i + 3)) := f_of i 3
    refine ⟨owT u (i + 1), nI (i + 1), h, ⟨rfl, rfl⟩, fun k => ?_⟩
    simp (disch := omega) only [e3, ile, icl, ck_ok, i1, Option.bind_some, hR.ow hi8]
    rw [if_neg (by omega)]
    rfl
  · right
    obtain rfl : i = n := by omega
    refine ⟨_, rfl, fun k => ?_⟩
    simp (disch := omega) only [ile]
    rw [if_pos (Nat.le_refl _)]
/-! the hill -/
def h1T (u : VS) (a : Nat) (s : Int32) : Nat → Int32
  | 0 => s
  | j + 1 => if a = j then h1T u a s j else if gV_here u a = 0 then (if gV_here u j = 0 then h1T u a s j + gV_mem u (8 * a + j) else h1T u a s j) else h1T u a s j
def h2T (u : VS) (n : Nat) : Nat → Int32
  | 0 => 0
  | a + 1 => h1T u a (h2T u n a) n
theorem h1_X {u : VS} {n W a : Nat} (hI : IV n W u) (ha : a < 8) (s : Int32) (k4 : Int32 → Int32 → Option Int32) : f_X8_memoryOverTheHill_14 u k4 smN s (nI a) 0 = k4 (h1T u a s n) (nI (a + 1)) := by
  unfold f_X8_memoryOverTheHill_14
  have hn := hI.n8
  refine lq3_inv (fun i x b c => x = h1T u a s i ∧ b = nI a ∧ c = nI i) (fun o => o = k4 (h1T u a s n) (nI (a + 1))) n ?_ smN _ _ _ (smN_gt (by omega)) ⟨rfl, rfl, rfl⟩
  rintro i x b c hi ⟨rfl, rfl, rfl⟩
  unfold b_X8_memoryOverTheHill_14
  rw [hI.pe]
  rcases Nat.lt_or_ge i n with h | h
  · left
    have hi8 : i < 8 := by omega
    refine ⟨h1T u a s (i + 1), nI a, nI (i + 1), h, ⟨rfl, rfl, rfl⟩, fun k => ?_⟩
    rw [mo_X u ha hi8]
    simp (disch := omega) only [ile, ieq, icl, ck_ok, i1, Option.bind_some, Int32.add_zero]
    rw [if_neg (by omega)]
    simp only [h1T]
    split
    · rfl
    · split
      · split <;> rfl
      · rfl
  · right
    obtain rfl : i = n := by omega
    refine ⟨_, rfl, fun k => ?_⟩
    simp (disch := omega) only [ile, i1]
    rw [if_pos (Nat.le_refl _)]
theorem h1_M {d : DS} {u : VS} {n W a : Nat} (hI : IV n W u) (hR : RV u (gD_s d)) (ha : a < 8) (s : Int32) (k4 : Int32 → Int32 → Option Int32) : f_X11_hill_16 d k4 smN s (nI a) 0 = k4 (h1T u a s n) (nI (a + 1)) := by
  unfold f_X11_hill_16
  have hn := hI.n8
  refine lq3_inv (fun i x b c => x = h1T u a s i ∧ b = nI a ∧ c = nI i) (fun o => o = k4 (h1T u a s n) (nI (a + 1))) n ?_ smN _ _ _ (smN_gt (by omega)) ⟨rfl, rfl, rfl⟩
  rintro i x b c hi ⟨rfl, rfl, rfl⟩
  unfold b_X11_hill_16
  simp only [ck0, cl0, hR.pe.trans hI.pe]
  rcases Nat.lt_or_ge i n with h | h
  · left
    have hi8 : i < 8 := by omega
    refine ⟨h1T u a s (i + 1), nI a, nI (i + 1), h, ⟨rfl, rfl, rfl⟩, fun k => ?_⟩
    rw [here_M hI hR ha, here_M hI hR hi8, f_by]
    simp (disch := omega) only [ile, ieq, icl, ck_ok, i1, Option.bind_some, Int32.add_zero, hR.me ha hi8]
    rw [if_neg (by omega)]
    simp only [h1T]
    split
    · rfl
    · split
      · split <;> rfl
      · rfl
  · right
    obtain rfl : i = n := by omega
    refine ⟨_, rfl, fun k => ?_⟩
    simp (disch := omega) only [ile, i1]
    rw [if_pos (Nat.le_refl _)]
theorem m_hill {n W : Nat} {x : XS} {d : DS} (h : XR n W x d) : OKr (f_X10_hill x) (f_X11_hill d) := by
  have hn := h.iv.n8
  refine ⟨h2T (xNow x) n n, ?_, ?_⟩
  · unfold f_X10_hill
    have e : f_X8_memoryOverTheHill (gM_now (gX_mind x)) = some (h2T (xNow x) n n) := by
      unfold f_X8_memoryOverTheHill f_X8_memoryOverTheHill_4
      refine lq2_inv (fun i a b => a = h2T (xNow x) n i ∧ b = nI i) (fun o => o = some (h2T (xNow x) n n)) n ?_ smN _ _ (smN_gt (by omega)) ⟨rfl, rfl⟩
      rintro i a b hi ⟨rfl, rfl⟩
      unfold b_X8_memoryOverTheHill_4
      rw [h.iv.pe]
      rcases Nat.lt_or_ge i n with g | g
      · left
        refine ⟨h2T (xNow x) n (i + 1), nI (i + 1), g, ⟨rfl, rfl⟩, fun k => ?_⟩
        rw [h1_X h.iv (show i < 8 by omega)]
        simp (disch := omega) only [ile]
        rw [if_neg (by omega)]
        rfl
      · right
        obtain rfl : i = n := by omega
        refine ⟨_, rfl, fun k => ?_⟩
        simp (disch := omega) only [ile]
        rw [if_pos (Nat.le_refl _)]
    rw [e, Option.bind_some]
  · unfold f_X11_hill f_X11_hill_4
    refine lq2_inv (fun i a b => a = h2T (xNow x) n i ∧ b = nI i) (fun o => o = some (h2T (xNow x) n n)) n ?_ smN _ _ (smN_gt (by omega)) ⟨rfl, rfl⟩
    rintro i a b hi ⟨rfl, rfl⟩
    unfold b_X11_hill_4
    simp only [ck0, cl0, h.rv.pe.trans h.iv.pe]
    rcases Nat.lt_or_ge i n with g | g
    · left
      refine ⟨h2T (xNow x) n (i + 1), nI (i + 1), g, ⟨rfl, rfl⟩, fun k => ?_⟩
      rw [h1_M h.iv h.rv (show i < 8 by omega)]
      simp (disch := omega) only [ile]
      rw [if_neg (by omega)]
      rfl
    · right
      obtain rfl : i = n := by omega
      refine ⟨_, rfl, fun k => ?_⟩
      simp (disch := omega) only [ile]
      rw [if_pos (Nat.le_refl _)]
