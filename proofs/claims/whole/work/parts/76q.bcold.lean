/-! who is cold to whom -/
abbrev cd (u : VS) (a b : Nat) : Prop := ¬ gV_here u a = 0 ∧ ¬ gV_here u b = 0 ∧ gV_mem u (8 * a + b) = 0 ∧ gV_mem u (8 * b + a) = 0
theorem ac_X {u : VS} {n W a b : Nat} (hI : IV n W u) (ha : a < n) (hb : b < n) (hab : a ≠ b) : f_X8_areCold u (nI a) (nI b) = some (if cd u a b then 1 else 0) := by
  have hn := hI.n8
  unfold f_X8_areCold f_X8_areTwoHere
  rw [ish_X hI ha, ish_X hI hb, mo_X _ (by omega) (by omega), mo_X _ (by omega) (by omega), if_neg (by rw [ieq (by omega) (by omega)]; exact hab)]
  simp only [Option.bind_some]
  by_cases g1 : gV_here u a = 0
  · rw [if_pos g1, Option.bind_some, if_pos rfl, if_neg (fun c : cd u a b => c.1 g1)]
  · rw [if_neg g1]
    by_cases g2 : gV_here u b = 0
    · rw [if_pos g2, Option.bind_some, if_pos rfl, if_neg (fun c : cd u a b => c.2.1 g2)]
    · rw [if_neg g2, Option.bind_some, if_neg (by decide)]
      by_cases g3 : gV_mem u (8 * a + b) = 0
      · rw [if_pos g3]
        by_cases g4 : gV_mem u (8 * b + a) = 0
        · rw [if_pos g4, if_pos (show cd u a b from ⟨g1, g2, g3, g4⟩)]
        · rw [if_neg g4, if_neg (fun c : cd u a b => g4 c.2.2.2)]
      · rw [if_neg g3, if_neg (fun c : cd u a b => g3 c.2.2.1)]
def c1T (u : VS) (a s : Nat) : Nat → Nat
  | 0 => s
  | j + 1 => if cd u a (a + 1 + j) then c1T u a s j + 1 else c1T u a s j
def c2T (u : VS) (n : Nat) : Nat → Nat
  | 0 => 0
  | a + 1 => c1T u a (c2T u n a) (n - (a + 1))
def d1T (u : VS) (a : Nat) (f : Int32) : Nat → Int32
  | 0 => f
  | j + 1 => if cd u a (a + 1 + j) then (if d1T u a f j = -9 then nI (10 * a + (a + 1 + j)) else d1T u a f j) else d1T u a f j
def d2T (u : VS) (n : Nat) : Nat → Int32
  | 0 => -9
  | a + 1 => d1T u a (d2T u n a) (n - (a + 1))
theorem c1_le (u : VS) (a s j : Nat) : c1T u a s j ≤ s + j ∧ s ≤ c1T u a s j := by
  induction j with
  | zero => exact ⟨Nat.le_refl _, Nat.le_refl _⟩
  | succ j ih => simp only [c1T]; split <;> omega
theorem c2_le (u : VS) {n : Nat} (hn : n ≤ 8) (a : Nat) : c2T u n a ≤ 8 * a := by
  induction a with
  | zero => exact Nat.le_refl _
  | succ a ih =>
    have := (c1_le u a (c2T u n a) (n - (a + 1))).1
    simp only [c2T]; omega
theorem d1_stay (u : VS) (a : Nat) (f : Int32) (j : Nat) (h : ¬ d1T u a f j = -9) (m : Nat) : d1T u a f (j + m) = d1T u a f j := by
  induction m with
  | zero => rfl
  | succ m ih =>
    show d1T u a f ((j + m) + 1) = _
    simp only [d1T]
    rw [ih, if_neg h]
    split <;> rfl
theorem d1_f (u : VS) (a : Nat) (f : Int32) (h : ¬ f = -9) (m : Nat) : d1T u a f m = f := by
  have := d1_stay u a f 0 h m
  rw [Nat.zero_add] at this
  exact this
theorem d2_stay (u : VS) (n a : Nat) (h : ¬ d2T u n a = -9) (m : Nat) : d2T u n (a + m) = d2T u n a := by
  induction m with
  | zero => rfl
  | succ m ih =>
    show d2T u n ((a + m) + 1) = _
    simp only [d2T]
    rw [ih, d1_f u _ _ h]
/-- none found yet just when none is counted -/
theorem c1_d1 (u : VS) (a s : Nat) (f : Int32) (h : s = 0 ↔ f = -9) (ha : a < 8) : ∀ j, j ≤ 8 → (c1T u a s j = 0 ↔ d1T u a f j = -9) := by
  intro j
  induction j with
  | zero => intro _; exact h
  | succ j ih =>
    intro hj
    have ih := ih (by omega)
    simp only [c1T, d1T]
    split
    · constructor
      · intro h; omega
      · intro h
        split at h
        · exact absurd h (nI_ne_m9 (by omega))
        · rename_i g; exact absurd h g
    · exact ih
theorem cc_X {u : VS} {n W a s : Nat} (hI : IV n W u) (ha : a < n) (k4 : Int32 → Int32 → Option Int32) : f_X8_countCold_16 u k4 smN (nI s) (nI a) (nI (a + 1)) = k4 (nI (c1T u a s (n - (a + 1)))) (nI (a + 1)) := by
  have hn := hI.n8
  unfold f_X8_countCold_16
  refine lq3_inv (fun j x y z => x = nI (c1T u a s j) ∧ y = nI a ∧ z = nI (a + 1 + j)) (fun o => o = k4 (nI (c1T u a s (n - (a + 1)))) (nI (a + 1))) (n - (a + 1)) ?_ smN _ _ _ (smN_gt (by omega)) ⟨rfl, rfl, rfl⟩
  rintro j x y z hj ⟨rfl, rfl, rfl⟩
  unfold b_X8_countCold_16
  rw [hI.pe]
  rcases Nat.lt_or_ge j (n - (a + 1)) with h | h
  · left
    refine ⟨nI (c1T u a s (j + 1)), nI a, nI (a + 1 + (j + 1)), h, ⟨rfl, rfl, rfl⟩, fun k => ?_⟩
    rw [ac_X hI ha (by omega) (by omega), Option.bind_some]
    simp (disch := omega) only [ile, i1, Int32.add_zero]
    rw [if_neg (by omega)]
    simp only [c1T]
    by_cases g : cd u a (a + 1 + j)
    · rw [if_pos g, if_pos g, if_neg (by decide)]; rfl
    · rw [if_neg g, if_neg g, if_pos rfl]; rfl
  · right
    obtain rfl : j = n - (a + 1) := by omega
    refine ⟨_, rfl, fun k => ?_⟩
    simp (disch := omega) only [ile, i1]
    rw [if_pos (by omega)]
theorem cc2_X {u : VS} {n W : Nat} (hI : IV n W u) : f_X8_countCold u = some (nI (c2T u n n)) := by
  have hn := hI.n8
  unfold f_X8_countCold f_X8_countCold_4
  refine lq2_inv (fun i x y => x = nI (c2T u n i) ∧ y = nI i) (fun o => o = some (nI (c2T u n n))) n ?_ smN _ _ (smN_gt (by omega)) ⟨rfl, rfl⟩
  rintro i x y hi ⟨rfl, rfl⟩
  unfold b_X8_countCold_4
  rw [hI.pe]
  rcases Nat.lt_or_ge i n with h | h
  · left
    refine ⟨nI (c2T u n (i + 1)), nI (i + 1), h, ⟨rfl, rfl⟩, fun k => ?_⟩
    simp (disch := omega) only [ile, i1]
    rw [if_neg (by omega), cc_X hI h]
    rfl
  · right
    obtain rfl : i = n := by omega
    refine ⟨_, rfl, fun k => ?_⟩
    simp (disch := omega) only [ile]
    rw [if_pos (Nat.le_refl _)]
theorem ix10 (a b : Nat) : (10 : Int32) * nI a + nI b = nI (10 * a + b) := by rw [l10, pk_mul, nI_add]
theorem fc_X {u : VS} {n W a : Nat} (hI : IV n W u) (ha : a < n) (k2 : Int32 → Option Int32) : f_X8_firstCold_14 u k2 smN (nI a) (nI (a + 1)) = if d1T u a (-9) (n - (a + 1)) = -9 then k2 (nI (a + 1)) else some (d1T u a (-9) (n - (a + 1))) := by
  have hn := hI.n8
  unfold f_X8_firstCold_14
  refine lq2_inv (fun j y z => d1T u a (-9) j = -9 ∧ y = nI a ∧ z = nI (a + 1 + j)) (fun o => o = if d1T u a (-9) (n - (a + 1)) = -9 then k2 (nI (a + 1)) else some (d1T u a (-9) (n - (a + 1)))) (n - (a + 1)) ?_ smN _ _ (smN_gt (by omega)) ⟨rfl, rfl, rfl⟩
  rintro j y z hj ⟨hd, rfl, rfl⟩
  unfold b_X8_firstCold_14
  rw [hI.pe]
  rcases Nat.lt_or_ge j (n - (a + 1)) with h | h
  · have ec := ac_X hI ha (show a + 1 + j < n by omega) (show a ≠ a + 1 + j by omega)
    by_cases g : cd u a (a + 1 + j)
    · right
      have e1 : d1T u a (-9) (j + 1) = nI (10 * a + (a + 1 + j)) := by simp only [d1T, if_pos g, if_pos hd]
      have e2 : ¬ d1T u a (-9) (j + 1) = -9 := by rw [e1]; exact nI_ne_m9 (by omega)
      have e3 := d1_stay u a (-9) (j + 1) e2 (n - (a + 1) - (j + 1))
      rw [show j + 1 + (n - (a + 1) - (j + 1)) = n - (a + 1) by omega] at e3
      refine ⟨some (nI (10 * a + (a + 1 + j))), ?_, fun k => ?_⟩
      · rw [if_neg (by rw [e3]; exact e2), e3, e1]
      · rw [ec, Option.bind_some, if_pos g, if_neg (show ¬ (1 : Int32) = 0 by decide), ix10]
        simp (disch := omega) only [ile, i1]
        rw [if_neg (by omega)]
    · left
      refine ⟨nI a, nI (a + 1 + (j + 1)), h, ⟨by simp only [d1T, if_neg g]; exact hd, rfl, rfl⟩, fun k => ?_⟩
      rw [ec, Option.bind_some, if_neg g, if_pos rfl]
      simp (disch := omega) only [ile, i1]
      rw [if_neg (by omega)]
      rfl
  · right
    obtain rfl : j = n - (a + 1) := by omega
    refine ⟨_, rfl, fun k => ?_⟩
    simp (disch := omega) only [ile, i1]
    rw [if_pos (by omega), if_pos hd]
theorem fc2_X {u : VS} {n W : Nat} (hI : IV n W u) : f_X8_firstCold u = some (d2T u n n) := by
  have hn := hI.n8
  unfold f_X8_firstCold f_X8_firstCold_2
  refine lq1_inv (fun i y => d2T u n i = -9 ∧ y = nI i) (fun o => o = some (d2T u n n)) n ?_ smN _ (smN_gt (by omega)) ⟨rfl, rfl⟩
  rintro i y hi ⟨hd, rfl⟩
  unfold b_X8_firstCold_2
  rw [hI.pe]
  rcases Nat.lt_or_ge i n with h | h
  · have e1 : d2T u n (i + 1) = d1T u i (-9) (n - (i + 1)) := by simp only [d2T]; rw [hd]
    by_cases g : d1T u i (-9) (n - (i + 1)) = -9
    · left
      refine ⟨nI (i + 1), h, ⟨e1.trans g, rfl⟩, fun k => ?_⟩
      simp (disch := omega) only [ile, i1]
      rw [if_neg (by omega), fc_X hI h, if_pos g]
    · right
      have e3 := d2_stay u n (i + 1) (by rw [e1]; exact g) (n - (i + 1))
      rw [show i + 1 + (n - (i + 1)) = n by omega] at e3
      refine ⟨_, rfl, fun k => ?_⟩
      simp (disch := omega) only [ile, i1]
      rw [if_neg (by omega), fc_X hI h, if_neg g, e3, e1]
  · right
    obtain rfl : i = n := by omega
    refine ⟨_, rfl, fun k => ?_⟩
    simp (disch := omega) only [ile]
    rw [if_pos (Nat.le_refl _), hd]
theorem cs0 {n W : Nat} {u : VS} (hI : IV n W u) {i j : Nat} (hi : i < 64) (hj : j < 64) : (gV_mem u i + gV_mem u j ≤ 0) = (gV_mem u i = 0 ∧ gV_mem u j = 0) := by
  obtain ⟨a, ha, ea⟩ := hI.me hi
  obtain ⟨b, hb, eb⟩ := hI.me hj
  rw [ea, eb, nI_add, l0, ile (by omega) (by decide), ieq (by omega) (by decide), ieq (by omega) (by decide)]
  exact propext (by omega)
theorem cc_M {d : DS} {u : VS} {n W a s : Nat} {f v : Int32} (hI : IV n W u) (hR : RV u (gD_s d)) (ha : a < n) (hs : s ≤ 100) (hf : s = 0 ↔ f = -9) (k24 : DS → Int32 → Int32 → Int32 → Option (Int32 × DS)) : f_X11_cold_41 v k24 smN d (nI s) f (nI a) (nI (a + 1)) = k24 d (nI (c1T u a s (n - (a + 1)))) (d1T u a f (n - (a + 1))) (nI (a + 1)) := by
  have hn := hI.n8
  unfold f_X11_cold_41
  refine lq5_inv (fun j x y z y' z' => x = d ∧ y = nI (c1T u a s j) ∧ z = d1T u a f j ∧ y' = nI a ∧ z' = nI (a + 1 + j)) (fun o => o = k24 d (nI (c1T u a s (n - (a + 1)))) (d1T u a f (n - (a + 1))) (nI (a + 1))) (n - (a + 1)) ?_ smN _ _ _ _ _ (smN_gt (by omega)) ⟨rfl, rfl, rfl, rfl, rfl⟩
  rintro j x y z y' z' hj ⟨rfl, rfl, rfl, rfl, rfl⟩
  unfold b_X11_cold_41
  simp only [ck0, cl0, hR.pe.trans hI.pe]
  rcases Nat.lt_or_ge j (n - (a + 1)) with h | h
  · left
    have hl := (c1_le u a s j).1
    have h0 := c1_d1 u a s f hf (by omega) j (by omega)
    refine ⟨x, nI (c1T u a s (j + 1)), d1T u a f (j + 1), nI a, nI (a + 1 + (j + 1)), h, ⟨rfl, rfl, rfl, rfl, rfl⟩, fun k => ?_⟩
    rw [here_M hI hR (show a < 8 by omega), here_M hI hR (show a + 1 + j < 8 by omega), f_by, f_by]
    simp (disch := omega) only [ile, i1, Option.bind_some, ck_ok, icl, hR.me, cs0 hI, ix10]
    rw [if_neg (by omega)]
    simp only [c1T, d1T]
    by_cases g1 : gV_here u a = 0
    · have gc : ¬ cd u a (a + 1 + j) := fun c => c.1 g1
      rw [if_pos g1, if_neg gc, if_neg gc]; rfl
    · rw [if_neg g1]
      by_cases g2 : gV_here u (a + 1 + j) = 0
      · have gc : ¬ cd u a (a + 1 + j) := fun c => c.2.1 g2
        rw [if_pos g2, if_neg gc, if_neg gc]; rfl
      · rw [if_neg g2]
        by_cases g3 : gV_mem u (8 * a + (a + 1 + j)) = 0 ∧ gV_mem u (8 * (a + 1 + j) + a) = 0
        · have gc : cd u a (a + 1 + j) := ⟨g1, g2, g3.1, g3.2⟩
          rw [if_pos g3, if_pos gc, if_pos gc]
          by_cases g4 : c1T u a s j = 0
          · rw [if_pos (show nI (c1T u a s j) = 0 by rw [g4]; rfl), if_pos (h0.mp g4)]; rfl
          · rw [if_neg (show ¬ nI (c1T u a s j) = 0 by rw [l0, ieq (by omega) (by decide)]; exact g4), if_neg (fun e => g4 (h0.mpr e))]; rfl
        · have gc : ¬ cd u a (a + 1 + j) := fun c => g3 ⟨c.2.2.1, c.2.2.2⟩
          rw [if_neg g3, if_neg gc, if_neg gc]; rfl
  · right
    obtain rfl : j = n - (a + 1) := by omega
    refine ⟨_, rfl, fun k => ?_⟩
    simp (disch := omega) only [ile, i1]
    rw [if_pos (by omega)]
theorem c2_d2 (u : VS) {n : Nat} (hn : n ≤ 8) : ∀ a, a ≤ 8 → (c2T u n a = 0 ↔ d2T u n a = -9) := by
  intro a
  induction a with
  | zero => intro _; exact ⟨fun _ => rfl, fun _ => rfl⟩
  | succ a ih =>
    intro ha
    simp only [c2T, d2T]
    exact c1_d1 u a _ _ (ih (by omega)) (by omega) _ (by omega)
theorem cc2_M {d : DS} {u : VS} {n W : Nat} {v : Int32} (hI : IV n W u) (hR : RV u (gD_s d)) : f_X11_cold_24 v smN d 0 (-9) 0 = some (if v = 0 then nI (c2T u n n) else d2T u n n, d) := by
  have hn := hI.n8
  unfold f_X11_cold_24
  refine lq4_inv (fun i x y z e => x = d ∧ y = nI (c2T u n i) ∧ z = d2T u n i ∧ e = nI i) (fun o => o = some (if v = 0 then nI (c2T u n n) else d2T u n n, d)) n ?_ smN _ _ _ _ (smN_gt (by omega)) ⟨rfl, rfl, rfl, rfl⟩
  rintro i x y z e hi ⟨rfl, rfl, rfl, rfl⟩
  unfold b_X11_cold_24
  simp only [ck0, cl0, hR.pe.trans hI.pe]
  rcases Nat.lt_or_ge i n with h | h
  · left
    have hc := c2_le u hn i
    refine ⟨x, nI (c2T u n (i + 1)), d2T u n (i + 1), nI (i + 1), h, ⟨rfl, rfl, rfl, rfl⟩, fun k => ?_⟩
    simp (disch := omega) only [ile, i1]
    rw [if_neg (by omega), cc_M hI hR h (by omega) (c2_d2 u hn i (by omega))]
    rfl
  · right
    obtain rfl : i = n := by omega
    refine ⟨_, rfl, fun k => ?_⟩
    simp (disch := omega) only [ile]
    rw [if_pos (Nat.le_refl _)]
    split <;> rfl
theorem m_cold {n W : Nat} {x : XS} {d : DS} (h : XR n W x d) (v : Int32) : OKi (f_X10_cold x v) (f_X11_cold d v) := by
  unfold f_X10_cold f_X11_cold
  rcases wwh v (hi := 1) (by decide) with ⟨k, hk, -, f1, f2⟩ | ⟨f1, f2, -⟩
  · have f1 : f_X10_wrongWhat v (1 : Int32) = some 0 := f1
    have f2 : f_X11_isIn v (0 : Int32) (1 : Int32) = some 1 := f2
    have ea : f_X8_countCold (gM_now (gX_mind (((0 : Int32), x)).2)) = some (nI (c2T (xNow x) n n)) := cc2_X h.iv
    have eb : f_X8_firstCold (gM_now (gX_mind (((0 : Int32), x)).2)) = some (d2T (xNow x) n n) := fc2_X h.iv
    refine ⟨if v = 0 then nI (c2T (xNow x) n n) else d2T (xNow x) n n, x, d, n, W, ?_, ?_, h⟩
    · rw [f1, Option.bind_some, ref1, cnt_0, Option.bind_some, if_pos rfl, ea, eb, Option.bind_some, Option.bind_some]
      split <;> rfl
    · rw [f2, Option.bind_some, if_neg (by decide), cc2_M h.iv h.rv]
  · have f1 : f_X10_wrongWhat v (1 : Int32) = some (-2) := f1
    have f2 : f_X11_isIn v (0 : Int32) (1 : Int32) = some 0 := f2
    refine OK_ref h rc2 ?_ ?_
    · rw [f1, Option.bind_some, ref1, cnt_c rc2, Option.bind_some, if_neg rc2.ne]
    · rw [f2, Option.bind_some, if_pos rfl, no_M rc2, Option.bind_some]
