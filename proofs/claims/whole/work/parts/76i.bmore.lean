/-! two who are here -/
theorem ish_X {u : VS} {n W p : Nat} (hI : IV n W u) (hp : p < n) : f_X8_isHere u (nI p) = some (gV_here u p) := by
  have hn := hI.n8
  unfold f_X8_isHere
  rw [has_X hI hp, Option.bind_some, if_neg (by decide), ck_ok (by omega) (by decide), icl (by omega)]
  rcases hI.he (show p < 8 by omega) with g | g <;> rw [g] <;> rfl
theorem ath_X {u : VS} {n W p q : Nat} (hI : IV n W u) (hp : p < n) (hq : q < n) (h1 : ¬ gV_here u p = 0) : f_X8_areTwoHere u (nI p) (nI q) = some (if p = q then 0 else if gV_here u q = 0 then 0 else 1) := by
  have hn := hI.n8
  unfold f_X8_areTwoHere
  rw [ish_X hI hp, ish_X hI hq]
  simp (disch := omega) only [ieq, Option.bind_some]
  by_cases e : p = q
  · rw [if_pos e, if_pos e]
  · rw [if_neg e, if_neg e, if_neg h1]
    split <;> rfl
/-- those he is in league with, of the first i -/
def lgT (u : VS) (p : Nat) : Nat → Int32
  | 0 => 0
  | i + 1 => if p = i then lgT u p i else if gV_here u i = 0 then lgT u p i else if gV_mem u (8 * p + i) < 50 then lgT u p i else if gV_mem u (8 * i + p) < 50 then lgT u p i else lgT u p i ||| ((1 : Int32) <<< (nI i &&& 31))
theorem lg_X {u : VS} {n W p : Nat} (hI : IV n W u) (hp : p < n) (h1 : ¬ gV_here u p = 0) : f_X8_leagueOf u (nI p) = some (lgT u p n) := by
  unfold f_X8_leagueOf f_X8_leagueOf_4
  have hn := hI.n8
  refine lq2_inv (fun i a b => a = lgT u p i ∧ b = nI i) (fun o => o = some (lgT u p n)) n ?_ smN _ _ (smN_gt (by omega)) ⟨rfl, rfl⟩
  rintro i a b hi ⟨rfl, rfl⟩
  unfold b_X8_leagueOf_4
  rw [hI.pe]
  rcases Nat.lt_or_ge i n with h | h
  · left
    refine ⟨lgT u p (i + 1), nI (i + 1), h, ⟨rfl, rfl⟩, fun k => ?_⟩
    rw [ath_X hI hp h h1, mo_X u (show p < 8 by omega) (show i < 8 by omega), mo_X u (show i < 8 by omega) (show p < 8 by omega)]
    simp (disch := omega) only [ile, i1, Option.bind_some]
    rw [if_neg (by omega)]
    simp only [lgT]
    by_cases g1 : p = i
    · rw [if_pos g1, if_pos g1, if_pos rfl]
    · rw [if_neg g1, if_neg g1]
      by_cases g2 : gV_here u i = 0
      · rw [if_pos g2, if_pos g2, if_pos rfl]
      · rw [if_neg g2, if_neg g2, if_neg (by decide)]
        split
        · rfl
        · split <;> rfl
  · right
    obtain rfl : i = n := by omega
    refine ⟨_, rfl, fun k => ?_⟩
    simp (disch := omega) only [ile]
    rw [if_pos (Nat.le_refl _)]
theorem al_M {d : DS} {u : VS} {n W p q : Nat} (hI : IV n W u) (hR : RV u (gD_s d)) (hp : p < 8) (hq : q < 8) : f_X11_areLeagued d (nI p) (nI q) = some (if gV_here u p = 0 then 0 else if gV_here u q = 0 then 0 else if gV_mem u (8 * p + q) < 50 then 0 else if gV_mem u (8 * q + p) < 50 then 0 else 1) := by
  unfold f_X11_areLeagued
  rw [here_M hI hR hp, here_M hI hR hq, f_by, f_by]
  simp (disch := omega) only [Option.bind_some, ck_ok, icl, hR.me hp hq, hR.me hq hp]
  split
  · rfl
  · split
    · rfl
    · split
      · rfl
      · split <;> rfl
theorem lg_M {d : DS} {u : VS} {n W p : Nat} (hI : IV n W u) (hR : RV u (gD_s d)) (hp : p < n) (h1 : ¬ gV_here u p = 0) : f_X11_league_21 (nI p) smN d 0 0 = some (lgT u p n, d) := by
  unfold f_X11_league_21
  have hn := hI.n8
  refine lq3_inv (fun i z a b => z = d ∧ a = lgT u p i ∧ b = nI i) (fun o => o = some (lgT u p n, d)) n ?_ smN _ _ _ (smN_gt (by omega)) ⟨rfl, rfl, rfl⟩
  rintro i z a b hi ⟨rfl, rfl, rfl⟩
  unfold b_X11_league_21
  simp only [ck0, cl0, hR.pe.trans hI.pe, or0]
  rcases Nat.lt_or_ge i n with h | h
  · left
    refine ⟨z, lgT u p (i + 1), nI (i + 1), h, ⟨rfl, rfl, rfl⟩, fun k => ?_⟩
    rw [al_M hI hR (show p < 8 by omega) (show i < 8 by omega), if_neg h1]
    simp (disch := omega) only [ile, ieq, i1, Option.bind_some]
    rw [if_neg (by omega)]
    simp only [lgT]
    by_cases g1 : p = i
    · rw [if_pos g1, if_pos g1.symm]
    · rw [if_neg g1, if_neg (fun e => g1 e.symm)]
      by_cases g2 : gV_here u i = 0
      · rw [if_pos g2, if_pos g2, if_pos rfl]
      · rw [if_neg g2, if_neg g2]
        by_cases g3 : gV_mem u (8 * p + i) < 50
        · rw [if_pos g3, if_pos g3, if_pos rfl]
        · rw [if_neg g3, if_neg g3]
          by_cases g4 : gV_mem u (8 * i + p) < 50
          · rw [if_pos g4, if_pos g4, if_pos rfl]
          · rw [if_neg g4, if_neg g4, if_neg (by decide)]
  · right
    obtain rfl : i = n := by omega
    refine ⟨_, rfl, fun k => ?_⟩
    simp (disch := omega) only [ile]
    rw [if_pos (Nat.le_refl _)]
/-- one who is here: refused else, alike -/
theorem won {n W : Nat} {x : XS} {d : DS} (h : XR n W x d) (a : Int32) : (∃ p, p < n ∧ a = nI p ∧ ¬ gV_here (xNow x) p = 0 ∧ f_X10_nobody x a = some 0 ∧ f_X10_forgotten x a = some 0 ∧ f_X11_wrongOne d a = some 0) ∨ (∃ c, RC c ∧ f_X11_wrongOne d a = some c ∧ ∃ c1 c2, f_X10_nobody x a = some c1 ∧ f_X10_forgotten x a = some c2 ∧ (if c1 = 0 then c2 else c1) = c) := by
  have hn := h.iv.n8
  unfold f_X11_wrongOne
  rcases nob h a with ⟨p, hp, rfl, e1, e2⟩ | ⟨e1, e2, -⟩
  · rw [e2, here_M h.iv h.rv (show p < 8 by omega), fgo h hp]
    by_cases g : gV_here (xNow x) p = 0
    · right
      refine ⟨-3, rc3, ?_, 0, -3, e1, ?_, rfl⟩
      · rw [Option.bind_some, if_neg (by decide), Option.bind_some, if_pos g]
      · rw [if_pos g]
    · left
      refine ⟨p, hp, rfl, g, e1, ?_, ?_⟩
      · rw [if_neg g]
      · rw [Option.bind_some, if_neg (by decide), Option.bind_some, if_neg g]
  · right
    obtain ⟨c2, f2⟩ := fgo_any h a
    exact ⟨-1, rc1, by rw [e2]; rfl, -1, c2, e1, f2, rfl⟩
theorem m_league {n W : Nat} {x : XS} {d : DS} (h : XR n W x d) (a : Int32) : OKi (f_X10_league x a) (f_X11_league d a) := by
  unfold f_X10_league f_X11_league
  rcases won h a with ⟨p, hp, rfl, g, e1, e2, e3⟩ | ⟨c, hc, e3, c1, c2, e1, e2, e4⟩
  · have e : f_X8_leagueOf (gM_now (gX_mind (((0 : Int32), x)).2)) (nI p) = some (lgT (xNow x) p n) := lg_X h.iv hp g
    refine ⟨lgT (xNow x) p n, x, d, n, W, ?_, ?_, h⟩
    · rw [e1, e2, Option.bind_some, Option.bind_some, ref2, if_pos rfl, cnt_0, Option.bind_some, if_pos rfl, e, Option.bind_some]
    · rw [e3, Option.bind_some, if_pos rfl, lg_M h.iv h.rv hp g]
  · refine OK_ref h hc ?_ ?_
    · rw [e1, e2, Option.bind_some, Option.bind_some, ref2, e4, cnt_c hc, Option.bind_some, if_neg hc.ne]
    · rw [e3, Option.bind_some, if_neg hc.ne, no_M hc, Option.bind_some]
/-- whom he remembers least, of the first i -/
def lrT (u : VS) (p : Nat) : Nat → Int32
  | 0 => -9
  | i + 1 => if p = i then lrT u p i else if gV_here u i = 0 then lrT u p i else if lrT u p i = -9 then nI i else if gV_mem u (8 * p + Int32.toNatClampNeg (lrT u p i)) ≤ gV_mem u (8 * p + i) then lrT u p i else nI i
theorem lrT_in (u : VS) (p : Nat) : ∀ i, i ≤ 8 → lrT u p i = -9 ∨ ∃ q, q < i ∧ lrT u p i = nI q := by
  intro i
  induction i with
  | zero => intro _; exact Or.inl rfl
  | succ i ih =>
    intro hi
    have keep : (lrT u p i = -9 ∨ ∃ q, q < i ∧ lrT u p i = nI q) → (lrT u p i = -9 ∨ ∃ q, q < i + 1 ∧ lrT u p i = nI q) := by
      rintro (h | ⟨q, h1, h2⟩)
      · exact Or.inl h
      · exact Or.inr ⟨q, by omega, h2⟩
    have h0 := keep (ih (by omega))
    simp only [lrT]
    split
    · exact h0
    · split
      · exact h0
      · split
        · exact Or.inr ⟨i, by omega, rfl⟩
        · split
          · exact h0
          · exact Or.inr ⟨i, by omega, rfl⟩
theorem lr_X {u : VS} {n W p : Nat} (hI : IV n W u) (hp : p < n) (h1 : ¬ gV_here u p = 0) : f_X8_leastRemembered u (nI p) = some (lrT u p n) := by
  unfold f_X8_leastRemembered f_X8_leastRemembered_5
  have hn := hI.n8
  refine lq2_inv (fun i a b => a = lrT u p i ∧ b = nI i) (fun o => o = some (lrT u p n)) n ?_ smN _ _ (smN_gt (by omega)) ⟨rfl, rfl⟩
  rintro i a b hi ⟨rfl, rfl⟩
  unfold b_X8_leastRemembered_5
  rw [hI.pe]
  rcases Nat.lt_or_ge i n with h | h
  · left
    refine ⟨lrT u p (i + 1), nI (i + 1), h, ⟨rfl, rfl⟩, fun k => ?_⟩
    rw [ath_X hI hp h h1, mo_X u (show p < 8 by omega) (show i < 8 by omega)]
    simp (disch := omega) only [ile, i1, Option.bind_some]
    rw [if_neg (by omega)]
    simp only [lrT]
    by_cases g1 : p = i
    · rw [if_pos g1, if_pos g1, if_pos rfl]
    · rw [if_neg g1, if_neg g1]
      by_cases g2 : gV_here u i = 0
      · rw [if_pos g2, if_pos g2, if_pos rfl]
      · rw [if_neg g2, if_neg g2, if_neg (by decide)]
        rcases lrT_in u p i (by omega) with g3 | ⟨q, hq, g3⟩
        · rw [g3, if_pos rfl, if_pos rfl]
        · rw [g3, if_neg (nI_ne_m9 (by omega)), if_neg (nI_ne_m9 (by omega)), mo_X u (show p < 8 by omega) (show q < 8 by omega), icl (by omega), Option.bind_some]
          split <;> rfl
  · right
    obtain rfl : i = n := by omega
    refine ⟨_, rfl, fun k => ?_⟩
    simp (disch := omega) only [ile]
    rw [if_pos (Nat.le_refl _)]
