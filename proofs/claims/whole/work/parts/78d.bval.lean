/-! valleys told in letters: the first pass of the class -/
def fitb (c b : Int32) : Bool := if b = 48 then decide (¬ c < 48 ∧ ¬ 57 < c) else if b = 107 then decide (¬ kix (i2cV c) < 0) else decide (c = b)
theorem fits_X (c b : Int32) : f_X7_fits c b = some (if fitb c b = true then 1 else 0) := by
  unfold f_X7_fits fitb
  by_cases g1 : b = 48
  · rw [if_pos g1, if_pos g1]
    by_cases g2 : c < 48
    · rw [if_pos g2, if_neg (by rw [decide_eq_true_eq]; exact fun k => k.1 g2)]
    · rw [if_neg g2]
      by_cases g3 : 57 < c
      · rw [if_pos g3, if_neg (by rw [decide_eq_true_eq]; exact fun k => k.2 g3)]
      · rw [if_neg g3, if_pos (decide_eq_true ⟨g2, g3⟩)]
  · rw [if_neg g1, if_neg g1]
    by_cases g2 : b = 107
    · rw [if_pos g2, if_pos g2]
      by_cases g3 : kix (i2cV c) < 0
      · rw [if_pos g3, if_neg (by rw [decide_eq_true_eq]; exact fun k => k g3)]
      · rw [if_neg g3, if_pos (decide_eq_true g3)]
    · rw [if_neg g2, if_neg g2]
      by_cases g3 : c = b
      · rw [if_pos g3, if_pos (decide_eq_true g3)]
      · rw [if_neg g3, if_neg (by rw [decide_eq_true_eq]; exact g3)]
def shI (c : Int32) : Nat := if c = 98 then 5 else if c = 110 then 6 else if c = 111 then 3 else if c = 112 then 1 else if c = 114 then 2 else if c = 115 then 4 else if c = 119 then 7 else 0
theorem sh_X (c : Int32) : f_X7_shapeOf c = some (shI c) := by
  unfold f_X7_shapeOf shI
  split
  · rfl
  split
  · rfl
  split
  · rfl
  split
  · rfl
  split
  · rfl
  split
  · rfl
  split <;> rfl
theorem shI_8 (c : Int32) : shI c < 8 := by
  unfold shI
  split
  · decide
  split
  · decide
  split
  · decide
  split
  · decide
  split
  · decide
  split
  · decide
  split <;> decide
def shL (k : Nat) : List Int32 := shT.getD k []
theorem ln_len : ∀ k, k < 9 → (shL k).length = lnS k := by decide
theorem ln_6 : ∀ k, k < 9 → lnS k ≤ 6 ∧ (lnS k = 0 ↔ k = 0) ∧ (¬ k = 0 → 3 ≤ lnS k) := by decide
theorem ch_get : ∀ k, k < 9 → ∀ j, j < 6 → chS k j = (shL k).getD j 0 := by decide
def ffL (t : Nat → Int32) (N : Nat) : List Int32 → Nat → Bool × Nat
  | [], p => (true, p)
  | b :: l, p => if p < N ∧ fitb (t p) b = true then ffL t N l (p + 1) else (false, p)
def rdS (t : Nat → Int32) (N s : Nat) : Bool × Nat := if s < N then (if shI (t s) = 0 then (false, s) else ffL t N (shL (shI (t s))) s) else (false, s)
theorem ffL_p {t : Nat → Int32} {N p : Nat} {b : Int32} (l : List Int32) (g : p < N ∧ fitb (t p) b = true) : ffL t N (b :: l) p = ffL t N l (p + 1) := by simp only [ffL, if_pos g]
theorem ffL_n {t : Nat → Int32} {N p : Nat} {b : Int32} (l : List Int32) (g : ¬ (p < N ∧ fitb (t p) b = true)) : ffL t N (b :: l) p = (false, p) := by simp only [ffL, if_neg g]
theorem ffL_app (t : Nat → Int32) (N : Nat) (l2 : List Int32) : ∀ (l1 : List Int32) (p : Nat), ffL t N (l1 ++ l2) p = if (ffL t N l1 p).1 = true then ffL t N l2 (ffL t N l1 p).2 else (false, (ffL t N l1 p).2) := by
  intro l1
  induction l1 with
  | nil => intro p; rfl
  | cons b l1 ih =>
    intro p
    rw [List.cons_append]
    by_cases g : p < N ∧ fitb (t p) b = true
    · rw [ffL_p _ g, ffL_p _ g]; exact ih (p + 1)
    · rw [ffL_n _ g, ffL_n _ g]; rfl
theorem ffL_end (t : Nat → Int32) (N : Nat) : ∀ (l : List Int32) (p : Nat), p ≤ N → (ffL t N l p).2 ≤ N ∧ p ≤ (ffL t N l p).2 ∧ ((ffL t N l p).1 = true → (ffL t N l p).2 = p + l.length ∧ ∀ j, j < l.length → fitb (t (p + j)) (l.getD j 0) = true) := by
  intro l
  induction l with
  | nil => intro p hp; exact ⟨hp, Nat.le_refl _, fun _ => ⟨rfl, fun j h => absurd h (Nat.not_lt_zero _)⟩⟩
  | cons b l ih =>
    intro p hp
    simp only [ffL]
    by_cases g : p < N ∧ fitb (t p) b = true
    · rw [if_pos g]
      obtain ⟨h1, h2, h3⟩ := ih (p + 1) (by omega)
      refine ⟨h1, by omega, fun h => ?_⟩
      obtain ⟨h4, h5⟩ := h3 h
      refine ⟨by rw [h4, List.length_cons]; omega, fun j hj => ?_⟩
      cases j with
      | zero => exact g.2
      | succ j =>
        have := h5 j (by rw [List.length_cons] at hj; omega)
        rw [show p + (j + 1) = p + 1 + j by omega]
        exact this
    · rw [if_neg g]
      exact ⟨hp, Nat.le_refl _, fun h => by cases h⟩
theorem rdS_end (t : Nat → Int32) (N s : Nat) (hs : s ≤ N) : (rdS t N s).2 ≤ N ∧ s ≤ (rdS t N s).2 ∧ ((rdS t N s).1 = true → s < N ∧ ¬ shI (t s) = 0 ∧ (rdS t N s).2 = s + lnS (shI (t s)) ∧ ∀ j, j < lnS (shI (t s)) → fitb (t (s + j)) (chS (shI (t s)) j) = true) := by
  unfold rdS
  by_cases g1 : s < N
  · rw [if_pos g1]
    by_cases g2 : shI (t s) = 0
    · rw [if_pos g2]; exact ⟨hs, Nat.le_refl _, fun h => by cases h⟩
    · rw [if_neg g2]
      have h8 := shI_8 (t s)
      obtain ⟨h1, h2, h3⟩ := ffL_end t N (shL (shI (t s))) s hs
      refine ⟨h1, h2, fun h => ?_⟩
      obtain ⟨h4, h5⟩ := h3 h
      have hl := ln_len (shI (t s)) (by omega)
      have h6 := (ln_6 (shI (t s)) (by omega)).1
      rw [hl] at h4 h5
      refine ⟨g1, g2, h4, fun j hj => ?_⟩
      rw [ch_get _ (by omega) j (by omega)]
      exact h5 j hj
  · rw [if_neg g1]; exact ⟨hs, Nat.le_refl _, fun h => by cases h⟩
/-- one statement of the class's first pass -/
theorem fw_st {u : TS} {N : Nat} (hs : gT_size u = nI N) (hN : N ≤ 96) {k : Nat} (hk : k < 9) : ∀ (l : List Int32) (j p m : Nat), (shL k).drop j = l → j + l.length = lnS k → p ≤ N → l.length < m → (((ffL (gT_let u) N l p).1 = true → f_X7_firstWrongLetter_7 u m k (nI j) (nI p) = f_X7_firstWrongLetter_7 u (m - l.length) k (nI (lnS k)) (nI (ffL (gT_let u) N l p).2)) ∧ ((ffL (gT_let u) N l p).1 = false → 0 < N → f_X7_firstWrongLetter_7 u m k (nI j) (nI p) = some (nI (ffL (gT_let u) N l p).2))) := by
  have h6 := (ln_6 k hk).1
  intro l
  induction l with
  | nil =>
    intro j p m hd hj hp hm
    refine ⟨fun _ => ?_, fun h => by cases h⟩
    rw [show lnS k = j by rw [List.length_nil] at hj; omega]
    rfl
  | cons b l ih =>
    intro j p m hd hj hp hm
    rw [List.length_cons] at hj hm
    have hj6 : j < lnS k := by omega
    have hb : chS k j = b := by
      rw [ch_get k hk j (by omega)]
      have h1 : (shL k)[j]? = some b := by
        have := congrArg (fun z => z[0]?) hd
        simpa using this
      rw [List.getD_eq_getElem?_getD, h1]
      rfl
    have hd2 : (shL k).drop (j + 1) = l := by
      have := congrArg (List.drop 1) hd
      simpa [List.drop_drop] using this
    obtain ⟨m', rfl⟩ : ∃ m', m = m' + 1 := ⟨m - 1, by omega⟩
    have e0 : f_X7_firstWrongLetter_7 u (m' + 1) k (nI j) (nI p) = b_X7_firstWrongLetter_7 u (f_X7_firstWrongLetter_7 u m') k (nI j) (nI p) := rfl
    rw [e0]
    unfold b_X7_firstWrongLetter_7 f_X7_firstWrongLetter_35
    rw [hs]
    simp (disch := omega) only [l0, ile, ilt, ieq, i1]
    simp only [ffL]
    rcases Nat.lt_or_ge p N with h | h
    · rw [if_neg (show ¬ N ≤ p by omega), if_pos hj6, if_neg (show ¬ lnS k = 0 by omega), ck_ok (by omega) (by decide), ck_ok hj6 (by omega), icl (by omega), icl (by omega), hb, fits_X, Option.bind_some]
      by_cases g : fitb (gT_let u p) b = true
      · rw [if_pos g, if_neg (show ¬ (1 : Int32) = nI 0 by decide), if_pos (show p < N ∧ fitb (gT_let u p) b = true from ⟨h, g⟩)]
        have := ih (j + 1) (p + 1) m' hd2 (by omega) (by omega) (by omega)
        rw [show m' + 1 - (b :: l).length = m' - l.length by rw [List.length_cons]; omega]
        exact this
      · rw [if_neg g, if_pos (show (0 : Int32) = nI 0 from rfl), if_neg (fun q => g q.2)]
        exact ⟨fun q => (by cases q), fun _ _ => rfl⟩
    · rw [if_pos h, if_neg (show ¬ j = lnS k by omega), if_neg (fun q => absurd q.1 (by omega))]
      refine ⟨fun q => (by cases q), fun _ h0 => ?_⟩
      rw [if_neg (show ¬ N ≤ 0 by omega), show p = N by omega]
theorem fw_st2 {u : TS} {N : Nat} (hs : gT_size u = nI N) (hN : N ≤ 96) {k s m : Nat} (hk : k < 9) (h : s < N) (hm : N - s + 6 < m) : ((rdS (gT_let u) N s).1 = true → f_X7_firstWrongLetter_7 u m k (nI (lnS k)) (nI s) = f_X7_firstWrongLetter_7 u (m - lnS (shI (gT_let u s))) (shI (gT_let u s)) (nI (lnS (shI (gT_let u s)))) (nI (rdS (gT_let u) N s).2)) ∧ ((rdS (gT_let u) N s).1 = false → f_X7_firstWrongLetter_7 u m k (nI (lnS k)) (nI s) = some (nI (rdS (gT_let u) N s).2)) := by
  have h6 := (ln_6 k hk).1
  have h8 := shI_8 (gT_let u s)
  have hq := ln_6 (shI (gT_let u s)) (by omega)
  obtain ⟨m', rfl⟩ : ∃ m', m = m' + 1 := ⟨m - 1, by omega⟩
  have e0 : f_X7_firstWrongLetter_7 u (m' + 1) k (nI (lnS k)) (nI s) = f_X7_firstWrongLetter_35 u (f_X7_firstWrongLetter_7 u m') (shI (gT_let u s)) 0 (nI s) := by
    show b_X7_firstWrongLetter_7 u (f_X7_firstWrongLetter_7 u m') k (nI (lnS k)) (nI s) = _
    unfold b_X7_firstWrongLetter_7
    rw [hs, if_neg (by rw [ile (by omega) (by omega)]; omega), if_neg (by rw [ilt (by omega) (by omega)]; omega), ck_ok (by omega) (by decide), icl (by omega), sh_X, Option.bind_some]
  unfold rdS
  rw [if_pos h]
  by_cases g : shI (gT_let u s) = 0
  · rw [if_pos g]
    refine ⟨fun q => (by cases q), fun _ => ?_⟩
    rw [e0]
    unfold f_X7_firstWrongLetter_35
    rw [if_pos (hq.2.1.mpr g)]
  · rw [if_neg g]
    have e1 : f_X7_firstWrongLetter_7 u (m' + 1) (shI (gT_let u s)) (nI 0) (nI s) = f_X7_firstWrongLetter_35 u (f_X7_firstWrongLetter_7 u m') (shI (gT_let u s)) 0 (nI s) := by
      show b_X7_firstWrongLetter_7 u (f_X7_firstWrongLetter_7 u m') (shI (gT_let u s)) (nI 0) (nI s) = _
      unfold b_X7_firstWrongLetter_7
      rw [hs, if_neg (by rw [ile (by omega) (by omega)]; omega), if_pos (by rw [ilt (by omega) (by omega)]; have := hq.2.2 g; omega)]
      rfl
    rw [e0, ← e1]
    have hl := ln_len (shI (gT_let u s)) (by omega)
    have := fw_st hs hN (k := shI (gT_let u s)) (by omega) (shL (shI (gT_let u s))) 0 s (m' + 1) rfl (by omega) (by omega) (by omega)
    rw [hl] at this
    exact ⟨this.1, fun z => this.2 z (by omega)⟩
/-- the statements from place s on: the first wrong place, if one is, and their number -/
def p1 (t : Nat → Int32) (N : Nat) : Nat → Nat → Option Nat × Nat
  | 0, s => (some s, 0)
  | f + 1, s => if (rdS t N s).1 = true then (if (rdS t N s).2 < N then ((p1 t N f (rdS t N s).2).1, (p1 t N f (rdS t N s).2).2 + 1) else (none, 1)) else (some (rdS t N s).2, 0)
theorem p1_no {t : Nat → Int32} {N s : Nat} (f : Nat) (h : (rdS t N s).1 = false) : p1 t N (f + 1) s = (some (rdS t N s).2, 0) := by simp only [p1, h]; rfl
theorem p1_end {t : Nat → Int32} {N s : Nat} (f : Nat) (h : (rdS t N s).1 = true) (h2 : ¬ (rdS t N s).2 < N) : p1 t N (f + 1) s = (none, 1) := by simp only [p1, h, if_neg h2]; rfl
theorem p1_go {t : Nat → Int32} {N s : Nat} (f : Nat) (h : (rdS t N s).1 = true) (h2 : (rdS t N s).2 < N) : p1 t N (f + 1) s = ((p1 t N f (rdS t N s).2).1, (p1 t N f (rdS t N s).2).2 + 1) := by simp only [p1, h, if_pos h2]; rfl
def wrI (o : Option Nat) : Int32 := match o with | none => -9 | some q => nI q
theorem fw_all {u : TS} {N : Nat} (hs : gT_size u = nI N) (hN : N ≤ 96) : ∀ f s m k, k < 9 → s < N → N - s + 6 < m → N - s < f → f_X7_firstWrongLetter_7 u m k (nI (lnS k)) (nI s) = some (wrI (p1 (gT_let u) N f s).1) := by
  intro f
  induction f with
  | zero => intro s m k hk h hm hf; omega
  | succ f ih =>
    intro s m k hk h hm hf
    have h8 := shI_8 (gT_let u s)
    obtain ⟨q1, q2, q3⟩ := rdS_end (gT_let u) N s (by omega)
    have hst := fw_st2 hs hN hk h hm
    simp only [p1]
    cases g : (rdS (gT_let u) N s).1 with
    | false => rw [hst.2 g, if_neg (by decide)]; rfl
    | true =>
      obtain ⟨q4, q5, q6, q7⟩ := q3 g
      have h3 := (ln_6 (shI (gT_let u s)) (by omega)).2.2 q5
      have h6 := (ln_6 (shI (gT_let u s)) (by omega)).1
      rw [hst.1 g, if_pos rfl]
      by_cases g2 : (rdS (gT_let u) N s).2 < N
      · rw [if_pos g2]
        exact ih _ _ _ (by omega) g2 (by omega) (by omega)
      · rw [if_neg g2]
        have e : (rdS (gT_let u) N s).2 = N := by omega
        rw [e]
        obtain ⟨m', hm'⟩ : ∃ m', m - lnS (shI (gT_let u s)) = m' + 1 := ⟨m - lnS (shI (gT_let u s)) - 1, by omega⟩
        rw [hm']
        show b_X7_firstWrongLetter_7 u (f_X7_firstWrongLetter_7 u m') (shI (gT_let u s)) (nI (lnS (shI (gT_let u s)))) (nI N) = _
        unfold b_X7_firstWrongLetter_7
        rw [hs, if_pos (by rw [ile (by omega) (by omega)]; exact Nat.le_refl _), if_neg (by rw [l0, ile (by omega) (by omega)]; omega), if_pos rfl]
        rfl
theorem fw_X {u : TS} {N : Nat} (hs : gT_size u = nI N) (hN : N ≤ 96) : f_X7_firstWrongLetter u = some (wrI (p1 (gT_let u) N 100 0).1) := by
  unfold f_X7_firstWrongLetter
  rcases Nat.lt_or_ge 0 N with h | h
  · exact fw_all hs hN 100 0 smN 0 (by decide) h (by unfold smN; omega) (by omega)
  · obtain rfl : N = 0 := by omega
    show b_X7_firstWrongLetter_7 u (f_X7_firstWrongLetter_7 u 999) 0 0 0 = _
    unfold b_X7_firstWrongLetter_7
    rw [hs, if_pos (by decide), if_pos (by decide)]
    have e : rdS (gT_let u) 0 0 = (false, 0) := by unfold rdS; rw [if_neg (by decide)]
    show some (nI 0) = some (wrI (p1 (gT_let u) 0 (99 + 1) 0).1)
    rw [p1_no 99 (by rw [e]), e]
    rfl
