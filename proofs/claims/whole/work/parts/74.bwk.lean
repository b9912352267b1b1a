/-! a week, whole -/
def wkT (u : VS) (n : Nat) : Nat → VS
  | 0 => u
  | i + 1 => if gV_here (wkT u n i) i = 0 then wkT u n i else rmT (wkT u n i) i (chv (wkT u n i) i) n
theorem wkT_keep (u : VS) (n : Nat) (i : Nat) : gV_kind (wkT u n i) = gV_kind u ∧ gV_fig (wkT u n i) = gV_fig u ∧ gV_owed (wkT u n i) = gV_owed u ∧ gV_here (wkT u n i) = gV_here u ∧ gV_people (wkT u n i) = gV_people u ∧ gV_names (wkT u n i) = gV_names u ∧ gV_week (wkT u n i) = gV_week u := by
  induction i with
  | zero => exact ⟨rfl, rfl, rfl, rfl, rfl, rfl, rfl⟩
  | succ i ih =>
    simp only [wkT]
    split
    · exact ih
    · have h := rmT_keep (wkT u n i) i (chv (wkT u n i) i) n
      exact ⟨h.1.trans ih.1, h.2.1.trans ih.2.1, h.2.2.1.trans ih.2.2.1, h.2.2.2.1.trans ih.2.2.2.1, h.2.2.2.2.1.trans ih.2.2.2.2.1, h.2.2.2.2.2.1.trans ih.2.2.2.2.2.1, h.2.2.2.2.2.2.trans ih.2.2.2.2.2.2⟩
theorem IV_wkT {n W : Nat} {u : VS} (h : IV n W u) : ∀ i, i ≤ 8 → IV n W (wkT u n i) := by
  intro i
  induction i with
  | zero => intro _; exact h
  | succ i ih =>
    intro hi
    have ih := ih (by omega)
    simp only [wkT]
    split
    · exact ih
    · exact IV_rmT ih (by omega) _ _ h.n8
def wk1 (u : VS) (n : Nat) : VS := wkT (sV_week u (gV_week u + 1)) n n
def wk (u : VS) (n : Nat) : VS := if gV_week (wk1 u n) - gV_week (wk1 u n) / 10 * 10 = 0 then spT (wk1 u n) n (Int32.toNatClampNeg (gV_names (wk1 u n))) else wk1 u n
theorem IV_wk1 {n W : Nat} {u : VS} (h : IV n W u) : IV n (W + 1) (wk1 u n) := by
  unfold wk1
  refine IV_wkT (IV_week h ?_) _ h.n8
  rw [h.wk]; exact i1 W
theorem IV_wk {n W : Nat} {u : VS} (h : IV n W u) : IV n (W + 1) (wk u n) := by
  unfold wk
  split
  · exact IV_spT (IV_wk1 h) _
  · exact IV_wk1 h
theorem wk_X {u : VS} {n W : Nat} (hI : IV n W u) (hW : W < 2 ^ 30) : f_X8_passWeek u = some (wk u n) := by
  have hn := hI.n8
  have h1 : IV n (W + 1) (sV_week u (gV_week u + 1)) := IV_week hI (by rw [hI.wk]; exact i1 W)
  unfold f_X8_passWeek f_X8_passWeek_12 wk wk1
  generalize sV_week u (gV_week u + 1) = w at h1 ⊢
  refine lq2_inv (fun i a b => a = wkT w n i ∧ b = nI i) (fun o => o = some (if gV_week (wkT w n n) - gV_week (wkT w n n) / 10 * 10 = 0 then spT (wkT w n n) n (Int32.toNatClampNeg (gV_names (wkT w n n))) else wkT w n n)) n ?_ smN _ _ (smN_gt (by omega)) ⟨rfl, rfl⟩
  rintro i a b hi ⟨rfl, rfl⟩
  have hIi := IV_wkT h1 i (by omega)
  have hk := wkT_keep w n i
  unfold b_X8_passWeek_12
  rw [hIi.pe]
  rcases Nat.lt_or_ge i n with h | h
  · left
    have hi8 : i < 8 := by omega
    obtain ⟨kk, hkk, ek⟩ := hIi.ki hi8
    refine ⟨wkT w n (i + 1), nI (i + 1), h, ⟨rfl, rfl⟩, fun k => ?_⟩
    simp (disch := omega) only [ile, icl, ck_ok, ch_X hIi (show W + 1 < 2 ^ 31 by omega) hi8, Option.bind_some, f_X8_passWeek_59, f_X8_passWeek_63, i1]
    rw [if_neg (by omega), ek, ck_ok hkk (by decide)]
    simp only [wkT]
    by_cases g1 : gV_here (wkT w n i) i = 0
    · rw [if_pos g1, if_pos g1, if_pos trivial]
    · rw [if_neg g1, if_neg g1, rm_X hIi hi8]
      simp only [Option.bind_some]
      by_cases g2 : chv (wkT w n i) i = 0
      · rw [if_pos g2, g2, rmT0 hIi hi8 n hn]
      · rw [if_neg g2]
  · right
    obtain rfl : i = n := by omega
    refine ⟨_, rfl, fun k => ?_⟩
    simp (disch := omega) only [ile]
    rw [if_pos (Nat.le_refl _)]
    obtain ⟨nk, hnk, en⟩ := hIi.na
    split
    · rw [sp_X hIi en hnk, en, icl (by omega)]
      rfl
    · rfl
theorem wk_M {u : VS} {r : Nat → Int32} {n W : Nat} (hI : IV n W u) (hR : RV u r) : ∃ r', RV (wk u n) r' ∧ f_X11_week r = some r' := by
  have hn := hI.n8
  have h1 : IV n (W + 1) (sV_week u (gV_week u + 1)) := IV_week hI (by rw [hI.wk]; exact i1 W)
  have hR1 : RV (sV_week u (gV_week u + 1)) (upd r 1 (r 1 + 1)) := by rw [hR.we]; exact RV_week hR _
  unfold f_X11_week f_X11_week_9 wk wk1
  simp only [ck1, cl1]
  generalize sV_week u (gV_week u + 1) = w at h1 hR1 ⊢
  generalize upd r 1 (r 1 + 1) = r1 at hR1 ⊢
  refine lq2_inv (fun i a b => RV (wkT w n i) a ∧ b = nI i) (fun o => ∃ r', RV (if gV_week (wkT w n n) - gV_week (wkT w n n) / 10 * 10 = 0 then spT (wkT w n n) n (Int32.toNatClampNeg (gV_names (wkT w n n))) else wkT w n n) r' ∧ o = some r') n ?_ smN _ _ (smN_gt (by omega)) ⟨hR1, rfl⟩
  rintro i a b hi ⟨hRa, rfl⟩
  have hIi := IV_wkT h1 i (by omega)
  unfold b_X11_week_9
  simp only [ck0, cl0, hRa.pe.trans hIi.pe]
  rcases Nat.lt_or_ge i n with h | h
  · left
    have hi8 : i < 8 := by omega
    refine ⟨mT (gV_here (wkT w n i)) i (chv (wkT w n i) i) a n, nI (i + 1), h, ⟨?_, rfl⟩, fun k => ?_⟩
    · simp only [wkT]
      exact RV_mT hRa hi8 _ n hn
    · rw [ch_M hRa hi8]
      simp (disch := omega) only [ile, Option.bind_some]
      rw [if_neg (by omega), wk24_M hIi hRa hi8]
  · right
    obtain rfl : i = n := by omega
    obtain ⟨nk, hnk, en⟩ := hIi.na
    obtain ⟨r', g1, g2⟩ := sp_M hIi hRa en hnk
    refine ⟨some r', ⟨r', ?_, rfl⟩, fun k => ?_⟩
    · rw [en, icl (by omega)]; exact g1
    · simp (disch := omega) only [ile]
      rw [if_pos (Nat.le_refl _), g2]
/-- k weeks -/
def wks (u : VS) (n : Nat) : Nat → VS
  | 0 => u
  | k + 1 => wk (wks u n k) n
theorem IV_wks {n W : Nat} {u : VS} (h : IV n W u) (k : Nat) : IV n (W + k) (wks u n k) := by
  induction k with
  | zero => exact h
  | succ k ih => exact IV_wk ih
theorem wks_X {u : VS} {n W k : Nat} (hI : IV n W u) (hW : W < 2 ^ 20) (hk : k ≤ 100) : f_X8_passWeeks u (nI k) = some (wks u n k) := by
  unfold f_X8_passWeeks f_X8_passWeeks_2
  refine lq2_inv (fun i a b => a = wks u n i ∧ b = nI i) (fun o => o = some (wks u n k)) k ?_ smN _ _ (smN_gt (by omega)) ⟨rfl, rfl⟩
  rintro i a b hi ⟨rfl, rfl⟩
  unfold b_X8_passWeeks_2
  rcases Nat.lt_or_ge i k with h | h
  · left
    refine ⟨wks u n (i + 1), nI (i + 1), h, ⟨rfl, rfl⟩, fun kk => ?_⟩
    rw [wk_X (IV_wks hI i) (by omega)]
    simp (disch := omega) only [ile, i1, Option.bind_some]
    rw [if_neg (by omega)]
    rfl
  · right
    obtain rfl : i = k := by omega
    refine ⟨_, rfl, fun kk => ?_⟩
    simp (disch := omega) only [ile]
    rw [if_pos (Nat.le_refl _)]
theorem wks_M {u : VS} {r : Nat → Int32} {n W k : Nat} (hI : IV n W u) (hR : RV u r) (hk : k ≤ 100) : ∃ r', RV (wks u n k) r' ∧ f_X11_weeksOn r (nI k) = some r' := by
  unfold f_X11_weeksOn f_X11_weeksOn_2
  refine lq2_inv (fun i a b => RV (wks u n i) a ∧ b = nI i) (fun o => ∃ r', RV (wks u n k) r' ∧ o = some r') k ?_ smN _ _ (smN_gt (by omega)) ⟨hR, rfl⟩
  rintro i a b hi ⟨hRa, rfl⟩
  unfold b_X11_weeksOn_2
  rcases Nat.lt_or_ge i k with h | h
  · left
    obtain ⟨r', g1, g2⟩ := wk_M (IV_wks hI i) hRa
    refine ⟨r', nI (i + 1), h, ⟨g1, rfl⟩, fun kk => ?_⟩
    rw [g2]
    simp (disch := omega) only [ile, i1, Option.bind_some]
    rw [if_neg (by omega)]
  · right
    obtain rfl : i = k := by omega
    refine ⟨some a, ⟨a, hRa, rfl⟩, fun kk => ?_⟩
    simp (disch := omega) only [ile]
    rw [if_pos (Nat.le_refl _)]
