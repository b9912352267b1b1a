/-! two who speak to all, or not -/
def taT (u : VS) (p : Nat) : Nat → VS
  | 0 => u
  | i + 1 => if p = i then taT u p i else if gV_here u i = 0 then taT u p i else tlk (taT u p i) p i
theorem taT_here (u : VS) (p : Nat) : ∀ i, gV_here (taT u p i) = gV_here u := by
  intro i
  induction i with
  | zero => rfl
  | succ i ih =>
    simp only [taT]
    split
    · exact ih
    · split
      · exact ih
      · exact ih
theorem IV_taT {n W : Nat} {u : VS} (h : IV n W u) {p : Nat} (hp : p < 8) : ∀ i, i ≤ 8 → IV n W (taT u p i) := by
  intro i
  induction i with
  | zero => intro _; exact h
  | succ i ih =>
    intro hi
    simp only [taT]
    split
    · exact ih (by omega)
    · split
      · exact ih (by omega)
      · exact IV_tlk (ih (by omega)) hp (by omega)
theorem ta_X {u : VS} {n W p : Nat} (hI : IV n W u) (hp : p < n) (h1 : ¬ gV_here u p = 0) : f_X8_talkToAll u (nI p) = some (taT u p n) := by
  have hn := hI.n8
  unfold f_X8_talkToAll f_X8_talkToAll_2
  refine lq2_inv (fun i a b => a = taT u p i ∧ b = nI i) (fun o => o = some (taT u p n)) n ?_ smN _ _ (smN_gt (by omega)) ⟨rfl, rfl⟩
  rintro i a b hi ⟨rfl, rfl⟩
  have hIi := IV_taT hI (show p < 8 by omega) i (by omega)
  have hh := taT_here u p i
  unfold b_X8_talkToAll_2
  rw [hIi.pe]
  simp (disch := omega) only [ile, i1]
  rcases Nat.lt_or_ge i n with h | h
  · left
    refine ⟨taT u p (i + 1), nI (i + 1), h, ⟨rfl, rfl⟩, fun k => ?_⟩
    rw [if_neg (by omega), ath_X hIi hp h (by rw [hh]; exact h1), hh, Option.bind_some, tlk_X _ (by omega) (by omega)]
    simp only [taT]
    by_cases g1 : p = i
    · rw [if_pos g1, if_pos g1, if_pos rfl]
    · rw [if_neg g1, if_neg g1]
      by_cases g2 : gV_here u i = 0
      · rw [if_pos g2, if_pos g2, if_pos rfl]
      · rw [if_neg g2, if_neg g2, if_neg (show ¬ (1 : Int32) = 0 by decide), Option.bind_some]
  · right
    obtain rfl : i = n := by omega
    refine ⟨_, rfl, fun k => ?_⟩
    rw [if_pos (Nat.le_refl _)]
theorem ta_M {d : DS} {u : VS} {n W p : Nat} (hI : IV n W u) (hR : RV u (gD_m d)) (hp : p < n) : ∃ r, RV (taT u p n) r ∧ f_X11_speaksToAll d (nI p) = some (sD_m d r) := by
  have hn := hI.n8
  unfold f_X11_speaksToAll f_X11_speaksToAll_2
  refine lq2_inv (fun i a b => (∃ r, RV (taT u p i) r ∧ a = sD_m d r) ∧ b = nI i) (fun o => ∃ r, RV (taT u p n) r ∧ o = some (sD_m d r)) n ?_ smN _ _ (smN_gt (by omega)) ⟨⟨gD_m d, hR, rfl⟩, rfl⟩
  rintro i a b hi ⟨⟨r, hRi, rfl⟩, rfl⟩
  have hIi := IV_taT hI (show p < 8 by omega) i (by omega)
  have hh := taT_here u p i
  unfold b_X11_speaksToAll_2
  have e1 : gD_m (sD_m d r) 0 = nI n := hRi.pe.trans hIi.pe
  simp (disch := omega) only [ck0, cl0, e1, ile, ieq, i1]
  rcases Nat.lt_or_ge i n with h | h
  · left
    have e2 : f_X11_isHere (gD_m (sD_m d r)) (nI i) = some (gV_here u i) := by
      rw [← hh]; exact here_M hIi hRi (by omega)
    by_cases g1 : p = i
    · refine ⟨sD_m d r, nI (i + 1), h, ⟨⟨r, ?_, rfl⟩, rfl⟩, fun k => ?_⟩
      · simp only [taT, if_pos g1]; exact hRi
      · rw [if_neg (by omega), if_pos g1.symm]
    · by_cases g2 : gV_here u i = 0
      · refine ⟨sD_m d r, nI (i + 1), h, ⟨⟨r, ?_, rfl⟩, rfl⟩, fun k => ?_⟩
        · simp only [taT, if_neg g1, if_pos g2]; exact hRi
        · rw [if_neg (by omega), if_neg (fun e => g1 e.symm), e2, Option.bind_some, if_pos g2]
      · obtain ⟨r', g3, g4⟩ := tlk_M hRi (show p < 8 by omega) (show i < 8 by omega)
        have e3 : f_X11_speaksIn (gD_m (sD_m d r)) (nI p) (nI i) = some r' := g4
        refine ⟨sD_m d r', nI (i + 1), h, ⟨⟨r', ?_, rfl⟩, rfl⟩, fun k => ?_⟩
        · simp only [taT, if_neg g1, if_neg g2]; exact g3
        · rw [if_neg (by omega), if_neg (fun e => g1 e.symm), e2, Option.bind_some, if_neg g2, e3, Option.bind_some]
          try rfl
  · right
    obtain rfl : i = n := by omega
    refine ⟨_, ⟨r, hRi, rfl⟩, fun k => ?_⟩
    rw [if_pos (Nat.le_refl _)]
def pr1 (u : VS) (n a x : Nat) : VS := if x = 1 then taT u a n else u
def pr (u : VS) (n a b x y : Nat) : VS := pr1 (pr1 u n a x) n b y
theorem IV_pr1 {n W : Nat} {u : VS} (h : IV n W u) {a : Nat} (ha : a < 8) (x : Nat) : IV n W (pr1 u n a x) := by
  unfold pr1
  split
  · exact IV_taT h ha n h.n8
  · exact h
theorem pr1_here (u : VS) (n a x : Nat) : gV_here (pr1 u n a x) = gV_here u := by
  unfold pr1
  split
  · exact taT_here _ _ _
  · rfl
theorem IV_pr {n W : Nat} {u : VS} (h : IV n W u) {a b : Nat} (ha : a < 8) (hb : b < 8) (x y : Nat) : IV n W (pr u n a b x y) := IV_pr1 (IV_pr1 h ha x) hb y
def vA (u : VS) (n a b k x y : Nat) : Int32 := kn (wks (pr u n a b x y) n k) n a - (30 : Int32) * nI x
def vB (u : VS) (n a b k x y : Nat) : Int32 := kn (wks (pr u n a b x y) n k) n b - (30 : Int32) * nI y
theorem hfs : ∀ i, i < 4 → nI i >>> ((1 : Int32) &&& 31) = nI (i / 2) ∧ nI i &&& 1 = nI (i % 2) ∧ nI i ^^^ 2 = nI (2 * (1 - i / 2) + i % 2) ∧ nI i ^^^ 1 = nI (2 * (i / 2) + (1 - i % 2)) ∧ nI i / 2 = nI (i / 2) ∧ nI i - nI i / 2 * 2 = nI (i % 2) ∧ 1 - nI (i / 2) = nI (1 - i / 2) ∧ 1 - nI (i % 2) = nI (1 - i % 2) := by decide
theorem wp_X {u : MS} {n W a b k i : Nat} (hI : IV n W (gM_now u)) (hW : W < 2 ^ 20) (ht : AnyV (gM_then u)) (ha : a < n) (hb : b < n) (h1 : ¬ gV_here (gM_now u) a = 0) (h2 : ¬ gV_here (gM_now u) b = 0) (hk : k ≤ 100) (hi : i < 4) : f_X3_weighPair u (nI a) (nI b) (nI k) (nI i) = some (sM_og (sM_fg (sM_then u (wks (pr (gM_now u) n a b (i / 2) (i % 2)) n k)) (upd (gM_fg u) i (vA (gM_now u) n a b k (i / 2) (i % 2)))) (upd (gM_og u) i (vB (gM_now u) n a b k (i / 2) (i % 2)))) := by
  have hn := hI.n8
  have f := hfs i hi
  have hI1 := IV_pr1 hI (show a < 8 by omega) (i / 2)
  have hI2 := IV_pr hI (show a < 8 by omega) (show b < 8 by omega) (i / 2) (i % 2)
  have e44 : f_X3_weighPair_44 (nI a) (nI b) (nI k) (nI i) (sM_then u (pr (gM_now u) n a b (i / 2) (i % 2))) (nI (i / 2)) (nI (i % 2)) = some (sM_og (sM_fg (sM_then u (wks (pr (gM_now u) n a b (i / 2) (i % 2)) n k)) (upd (gM_fg u) i (vA (gM_now u) n a b k (i / 2) (i % 2)))) (upd (gM_og u) i (vB (gM_now u) n a b k (i / 2) (i % 2)))) := by
    unfold f_X3_weighPair_44
    have q1 : f_X8_passWeeks (gM_then (sM_then u (pr (gM_now u) n a b (i / 2) (i % 2)))) (nI k) = some (wks (pr (gM_now u) n a b (i / 2) (i % 2)) n k) := wks_X hI2 hW hk
    rw [q1, Option.bind_some]
    have q2 : f_X8_knownOf (gM_then (sM_then (sM_then u (pr (gM_now u) n a b (i / 2) (i % 2))) (wks (pr (gM_now u) n a b (i / 2) (i % 2)) n k))) (nI a) = some (kn (wks (pr (gM_now u) n a b (i / 2) (i % 2)) n k) n a) := kn_X (IV_wks hI2 k) (by omega)
    rw [q2, Option.bind_some, Option.bind_some]
    simp (disch := omega) only [ck_ok, icl]
    have q3 : ∀ f, f_X8_knownOf (gM_then (sM_fg (sM_then (sM_then u (pr (gM_now u) n a b (i / 2) (i % 2))) (wks (pr (gM_now u) n a b (i / 2) (i % 2)) n k)) f)) (nI b) = some (kn (wks (pr (gM_now u) n a b (i / 2) (i % 2)) n k) n b) := fun f => kn_X (IV_wks hI2 k) (by omega)
    rw [q3, Option.bind_some, Option.bind_some, Option.bind_some]
    rfl
  have e30 : f_X3_weighPair_30 (nI a) (nI b) (nI k) (nI i) (sM_then u (pr1 (gM_now u) n a (i / 2))) (nI (i / 2)) (nI (i % 2)) = some (sM_og (sM_fg (sM_then u (wks (pr (gM_now u) n a b (i / 2) (i % 2)) n k)) (upd (gM_fg u) i (vA (gM_now u) n a b k (i / 2) (i % 2)))) (upd (gM_og u) i (vB (gM_now u) n a b k (i / 2) (i % 2)))) := by
    rw [← e44]
    unfold f_X3_weighPair_30 pr
    simp (disch := omega) only [l1, ieq]
    have q : f_X8_talkToAll (gM_then (sM_then u (pr1 (gM_now u) n a (i / 2)))) (nI b) = some (taT (pr1 (gM_now u) n a (i / 2)) b n) := ta_X hI1 hb (by rw [pr1_here]; exact h2)
    by_cases g : i % 2 = 1
    · rw [if_pos g, q, Option.bind_some]
      rw [show pr1 (pr1 (gM_now u) n a (i / 2)) n b (i % 2) = taT (pr1 (gM_now u) n a (i / 2)) b n from if_pos g]
      try rfl
    · rw [if_neg g]
      rw [show pr1 (pr1 (gM_now u) n a (i / 2)) n b (i % 2) = pr1 (gM_now u) n a (i / 2) from if_neg g]
  unfold f_X3_weighPair
  rw [sa_X hI ht, Option.bind_some, f.1, f.2.1, ← e30]
  simp (disch := omega) only [l1, ieq]
  have q : f_X8_talkToAll (gM_then (sM_then u (gM_now u))) (nI a) = some (taT (gM_now u) a n) := ta_X hI ha h1
  by_cases g : i / 2 = 1
  · rw [if_pos g, q, Option.bind_some]
    rw [show pr1 (gM_now u) n a (i / 2) = taT (gM_now u) a n from if_pos g]
    try rfl
  · rw [if_neg g]
    rw [show pr1 (gM_now u) n a (i / 2) = gM_now u from if_neg g]
def twT (u : VS) (n a b k : Nat) : Nat → Nat → Int32
  | 0, _ => -9
  | m + 1, i => if vA u n a b k (i / 2) (i % 2) < vA u n a b k (1 - i / 2) (i % 2) then twT u n a b k m (i + 1) else if vB u n a b k (i / 2) (i % 2) < vB u n a b k (i / 2) (1 - i % 2) then twT u n a b k m (i + 1) else (10 : Int32) * nI (i / 2) + nI (i % 2)
theorem st27_X {u : MS} {v : VS} {n a b k : Nat} (hf : ∀ i, i < 4 → gM_fg u i = vA v n a b k (i / 2) (i % 2) ∧ gM_og u i = vB v n a b k (i / 2) (i % 2)) : f_X3_settled_27 smN u 0 = some (twT v n a b k 4 0, u) := by
  generalize hT : twT v n a b k 4 0 = T
  unfold f_X3_settled_27
  refine lq2_inv (fun i a1 b1 => a1 = u ∧ b1 = nI i ∧ twT v n a b k (4 - i) i = T) (fun o => o = some (T, u)) 4 ?_ smN _ _ (smN_gt (by omega)) ⟨rfl, rfl, hT⟩
  rintro i a1 b1 hi ⟨rfl, rfl, hg⟩
  unfold b_X3_settled_27
  simp (disch := omega) only [l4, ile, i1]
  rcases Nat.lt_or_ge i 4 with h | h
  · rw [show 4 - i = (3 - i) + 1 by omega] at hg
    simp only [twT] at hg
    obtain ⟨f1, f2, f3, f4, -⟩ := hfs i h
    have f3 : nI i ^^^ (2 : Int32) = nI (2 * (1 - i / 2) + i % 2) := f3
    have m1 := hf i h
    have m2 := hf (2 * (1 - i / 2) + i % 2) (by omega)
    have m3 := hf (2 * (i / 2) + (1 - i % 2)) (by omega)
    rw [show (2 * (1 - i / 2) + i % 2) / 2 = 1 - i / 2 by omega, show (2 * (1 - i / 2) + i % 2) % 2 = i % 2 by omega] at m2
    rw [show (2 * (i / 2) + (1 - i % 2)) / 2 = i / 2 by omega, show (2 * (i / 2) + (1 - i % 2)) % 2 = 1 - i % 2 by omega] at m3
    rw [f1, f2, f3, f4]
    simp (disch := omega) only [ck_ok, icl]
    rw [m1.1, m1.2, m2.1, m3.2]
    simp only [if_neg (show ¬ 4 ≤ i by omega)]
    by_cases g1 : vA v n a b k (i / 2) (i % 2) < vA v n a b k (1 - i / 2) (i % 2)
    · left
      rw [if_pos g1] at hg
      simp only [if_pos g1]
      exact ⟨a1, nI (i + 1), h, ⟨rfl, rfl, by rw [show 4 - (i + 1) = 3 - i by omega]; exact hg⟩, fun k => rfl⟩
    · rw [if_neg g1] at hg
      simp only [if_neg g1]
      by_cases g2 : vB v n a b k (i / 2) (i % 2) < vB v n a b k (i / 2) (1 - i % 2)
      · left
        rw [if_pos g2] at hg
        simp only [if_pos g2]
        exact ⟨a1, nI (i + 1), h, ⟨rfl, rfl, by rw [show 4 - (i + 1) = 3 - i by omega]; exact hg⟩, fun k => rfl⟩
      · right
        rw [if_neg g2] at hg
        simp only [if_neg g2, hg]
        exact ⟨_, rfl, fun k => rfl⟩
  · right
    obtain rfl : i = 4 := by omega
    refine ⟨_, rfl, fun k => ?_⟩
    rw [if_pos (Nat.le_refl _), ← hg]
    rfl
theorem st_X {u : MS} {n W a b k : Nat} (hI : IV n W (gM_now u)) (hW : W < 2 ^ 20) (ht : AnyV (gM_then u)) (ha : a < n) (hb : b < n) (h1 : ¬ gV_here (gM_now u) a = 0) (h2 : ¬ gV_here (gM_now u) b = 0) (hk : k ≤ 100) : ∃ w f g, AnyV w ∧ f_X3_settled u (nI a) (nI b) (nI k) = some (twT (gM_now u) n a b k 4 0, sM_og (sM_fg (sM_then u w) f) g) := by
  have hn := hI.n8
  unfold f_X3_settled f_X3_settled_3
  refine lq2_inv (fun i a1 b1 => (∃ w f g, AnyV w ∧ a1 = sM_og (sM_fg (sM_then u w) f) g ∧ ∀ j, j < i → f j = vA (gM_now u) n a b k (j / 2) (j % 2) ∧ g j = vB (gM_now u) n a b k (j / 2) (j % 2)) ∧ b1 = nI i) (fun o => ∃ w f g, AnyV w ∧ o = some (twT (gM_now u) n a b k 4 0, sM_og (sM_fg (sM_then u w) f) g)) 4 ?_ smN _ _ (smN_gt (by omega)) ⟨⟨gM_then u, gM_fg u, gM_og u, ht, rfl, fun j h => by omega⟩, rfl⟩
  rintro i a1 b1 hi ⟨⟨w, f, g, hw, rfl, hfg⟩, rfl⟩
  unfold b_X3_settled_3
  simp (disch := omega) only [l4, ile, i1]
  rcases Nat.lt_or_ge i 4 with h | h
  · left
    have e := wp_X (u := sM_og (sM_fg (sM_then u w) f) g) (i := i) (k := k) hI hW hw ha hb h1 h2 hk h
    refine ⟨sM_og (sM_fg (sM_then u (wks (pr (gM_now u) n a b (i / 2) (i % 2)) n k)) (upd f i (vA (gM_now u) n a b k (i / 2) (i % 2)))) (upd g i (vB (gM_now u) n a b k (i / 2) (i % 2))), nI (i + 1), h, ⟨⟨_, _, _, (IV_wks (IV_pr hI (show a < 8 by omega) (show b < 8 by omega) (i / 2) (i % 2)) k).any, rfl, fun j hj => ?_⟩, rfl⟩, fun kk => ?_⟩
    · by_cases e1 : j = i
      · subst e1; rw [us, us]; exact ⟨rfl, rfl⟩
      · rw [un e1, un e1]; exact hfg j (by omega)
    · rw [if_neg (by omega), e, Option.bind_some]
      try rfl
  · right
    obtain rfl : i = 4 := by omega
    refine ⟨_, ⟨w, f, g, hw, rfl⟩, fun kk => ?_⟩
    rw [if_pos (Nat.le_refl _)]
    exact st27_X hfg
theorem hs_M {d : DS} {u : VS} {n W a b c k x y : Nat} (hI : IV n W u) (hR : RV u (gD_s d)) (ha : a < n) (hb : b < n) (hc : c < 8) (hk : k ≤ 100) (hx : x ≤ 1) (hy : y ≤ 1) : ∃ r, f_X11_hasBy d (nI c) (nI a) (nI x) (nI b) (nI y) (nI k) = some (kn (wks (pr u n a b x y) n k) n c - (30 : Int32) * nI (if c = a then x else y), sD_m d r) := by
  have hn := hI.n8
  have hI1 := IV_pr1 hI (show a < 8 by omega) x
  have hI2 := IV_pr hI (show a < 8 by omega) (show b < 8 by omega) x y
  have e33 : ∀ r, RV (pr u n a b x y) r → ∃ r', f_X11_hasBy_33 (nI c) (nI a) (nI x) (nI y) (nI k) (sD_m d r) = some (kn (wks (pr u n a b x y) n k) n c - (30 : Int32) * nI (if c = a then x else y), sD_m d r') := by
    intro r hr
    obtain ⟨r', g1, g2⟩ := wks_M hI2 hr hk
    have q1 : f_X11_weeksOn (gD_m (sD_m d r)) (nI k) = some r' := g2
    have q2 : f_X11_knownIn (gD_m (sD_m (sD_m d r) r')) (nI c) = some (kn (wks (pr u n a b x y) n k) n c) := kn_M (IV_wks hI2 k) g1 hc
    refine ⟨r', ?_⟩
    unfold f_X11_hasBy_33
    rw [q1, Option.bind_some, q2, Option.bind_some]
    simp (disch := omega) only [ieq]
    split <;> rfl
  have e21 : ∀ r, RV (pr1 u n a x) r → ∃ r', f_X11_hasBy_21 (nI c) (nI a) (nI x) (nI b) (nI y) (nI k) (sD_m d r) = some (kn (wks (pr u n a b x y) n k) n c - (30 : Int32) * nI (if c = a then x else y), sD_m d r') := by
    intro r hr
    unfold f_X11_hasBy_21
    simp (disch := omega) only [l1, ieq]
    by_cases g : y = 1
    · obtain ⟨r2, g1, g2⟩ := ta_M (d := sD_m d r) hI1 hr hb
      obtain ⟨r3, g3⟩ := e33 r2 (by unfold pr; rw [show pr1 (pr1 u n a x) n b y = taT (pr1 u n a x) b n from if_pos g]; exact g1)
      refine ⟨r3, ?_⟩
      rw [if_pos g, g2, Option.bind_some]
      exact g3
    · obtain ⟨r3, g3⟩ := e33 r (by unfold pr; rw [show pr1 (pr1 u n a x) n b y = pr1 u n a x from if_neg g]; exact hr)
      refine ⟨r3, ?_⟩
      rw [if_neg g]
      exact g3
  unfold f_X11_hasBy
  rw [copies_M, Option.bind_some]
  simp (disch := omega) only [l1, ieq]
  have hr0 := RV_cp (gD_m d) hR
  by_cases g : x = 1
  · obtain ⟨r2, g1, g2⟩ := ta_M (d := sD_m (sD_s d (gD_s d, cpT (gD_s d) (gD_m d) 99).1) (gD_s d, cpT (gD_s d) (gD_m d) 99).2) hI hr0 ha
    obtain ⟨r3, g3⟩ := e21 r2 (by rw [show pr1 u n a x = taT u a n from if_pos g]; exact g1)
    refine ⟨r3, ?_⟩
    rw [if_pos g, g2, Option.bind_some]
    exact g3
  · obtain ⟨r3, g3⟩ := e21 _ (by rw [show pr1 u n a x = u from if_neg g]; exact hr0)
    refine ⟨r3, ?_⟩
    rw [if_neg g]
    exact g3
theorem tw_M {d : DS} {u : VS} {n W a b k : Nat} (hI : IV n W u) (hR : RV u (gD_s d)) (ha : a < n) (hb : b < n) (hab : a ≠ b) (hk : k ≤ 100) : ∃ r, f_X11_two_68 (nI a) (nI b) (nI k) smN d 0 = some (twT u n a b k 4 0, sD_m d r) := by
  have hn := hI.n8
  generalize hT : twT u n a b k 4 0 = T
  unfold f_X11_two_68
  refine lq2_inv (fun i a1 b1 => (∃ r, a1 = sD_m d r) ∧ b1 = nI i ∧ twT u n a b k (4 - i) i = T) (fun o => ∃ r, o = some (T, sD_m d r)) 4 ?_ smN _ _ (smN_gt (by omega)) ⟨⟨gD_m d, rfl⟩, rfl, hT⟩
  rintro i a1 b1 hi ⟨⟨r, rfl⟩, rfl, hg⟩
  unfold b_X11_two_68
  simp (disch := omega) only [l4, ile, i1]
  rcases Nat.lt_or_ge i 4 with h | h
  · rw [show 4 - i = (3 - i) + 1 by omega] at hg
    simp only [twT] at hg
    obtain ⟨-, -, -, -, f5, f6, f7, f8⟩ := hfs i h
    have f5 : nI i / (2 : Int32) = nI (i / 2) := f5
    have f6 : nI i - nI i / (2 : Int32) * (2 : Int32) = nI (i % 2) := f6
    rw [f6, f5, f7, f8]
    simp only [if_neg (show ¬ 4 ≤ i by omega)]
    obtain ⟨r1, q1⟩ := hs_M (d := sD_m d r) (c := a) (k := k) (x := 1 - i / 2) (y := i % 2) hI hR ha hb (by omega) hk (by omega) (by omega)
    obtain ⟨r2, q2⟩ := hs_M (d := sD_m d r1) (c := a) (k := k) (x := i / 2) (y := i % 2) hI hR ha hb (by omega) hk (by omega) (by omega)
    obtain ⟨r3, q3⟩ := hs_M (d := sD_m d r2) (c := b) (k := k) (x := i / 2) (y := 1 - i % 2) hI hR ha hb (by omega) hk (by omega) (by omega)
    obtain ⟨r4, q4⟩ := hs_M (d := sD_m d r3) (c := b) (k := k) (x := i / 2) (y := i % 2) hI hR ha hb (by omega) hk (by omega) (by omega)
    rw [if_pos rfl] at q1 q2
    rw [if_neg (fun e => hab e.symm)] at q3 q4
    have q2 : f_X11_hasBy (sD_m (sD_m d r) r1) (nI a) (nI a) (nI (i / 2)) (nI b) (nI (i % 2)) (nI k) = some (vA u n a b k (i / 2) (i % 2), sD_m (sD_m (sD_m d r) r1) r2) := q2
    have q3 : f_X11_hasBy (sD_m (sD_m (sD_m d r) r1) r2) (nI b) (nI a) (nI (i / 2)) (nI b) (nI (1 - i % 2)) (nI k) = some (vB u n a b k (i / 2) (1 - i % 2), sD_m (sD_m (sD_m (sD_m d r) r1) r2) r3) := q3
    have q4 : f_X11_hasBy (sD_m (sD_m (sD_m (sD_m d r) r1) r2) r3) (nI b) (nI a) (nI (i / 2)) (nI b) (nI (i % 2)) (nI k) = some (vB u n a b k (i / 2) (i % 2), sD_m (sD_m (sD_m (sD_m (sD_m d r) r1) r2) r3) r4) := q4
    have q1 : f_X11_hasBy (sD_m d r) (nI a) (nI a) (nI (1 - i / 2)) (nI b) (nI (i % 2)) (nI k) = some (vA u n a b k (1 - i / 2) (i % 2), sD_m (sD_m d r) r1) := q1
    simp only [q1, Option.bind_some, q2, q3, q4]
    by_cases g1 : vA u n a b k (i / 2) (i % 2) < vA u n a b k (1 - i / 2) (i % 2)
    · left
      rw [if_pos g1] at hg
      simp only [if_pos g1]
      exact ⟨sD_m d r2, nI (i + 1), h, ⟨⟨r2, rfl⟩, rfl, by rw [show 4 - (i + 1) = 3 - i by omega]; exact hg⟩, fun k => rfl⟩
    · rw [if_neg g1] at hg
      simp only [if_neg g1]
      by_cases g2 : vB u n a b k (i / 2) (i % 2) < vB u n a b k (i / 2) (1 - i % 2)
      · left
        rw [if_pos g2] at hg
        simp only [if_pos g2]
        exact ⟨sD_m d r4, nI (i + 1), h, ⟨⟨r4, rfl⟩, rfl, by rw [show 4 - (i + 1) = 3 - i by omega]; exact hg⟩, fun k => rfl⟩
      · right
        rw [if_neg g2] at hg
        simp only [if_neg g2, hg]
        exact ⟨_, ⟨r4, rfl⟩, fun k => rfl⟩
  · right
    obtain rfl : i = 4 := by omega
    refine ⟨_, ⟨r, rfl⟩, fun k => ?_⟩
    rw [if_pos (Nat.le_refl _), ← hg]
    rfl
theorem ref4 (x : XS) (a b c e : Int32) : f_X10_refused___ x a b c e = f_X10_counted x (if (if a = 0 then b else a) = 0 then (if c = 0 then e else c) else (if a = 0 then b else a)) := by
  unfold f_X10_refused___ f_X10_firstThatFits
  have key : ∀ o : Option (Int32 × XS), (o.bind fun z => some (z.1, z.2)) = o := by intro o; cases o <;> rfl
  by_cases ha : a = 0 <;> by_cases hb : b = 0 <;> by_cases hc : c = 0 <;> simp only [ha, hb, hc, if_true, if_false, Option.bind_some, key]
theorem XR_fog {n W : Nat} {x : XS} {d : DS} (h : XR n W x d) {u : VS} (hu : AnyV u) (f g : Nat → Int32) (r : Nat → Int32) : XR n W (sX_mind x (sM_og (sM_fg (sM_then (gX_mind x) u) f) g)) (sD_m d r) := ⟨h.1, h.2.1, h.2.2.1, hu, h.2.2.2.2⟩
theorem m_two {n W : Nat} {x : XS} {d : DS} (h : XR n W x d) (a b v : Int32) : OKi (f_X10_two x a b v) (f_X11_two d a b v) := by
  have hn := h.iv.n8
  have hw := h.w
  unfold f_X10_two f_X11_two
  rw [out_eq]
  rcases ntwo h a b with ⟨p, q, hp, hq, hpq, rfl, rfl, e1, e2⟩ | ⟨e1, e2⟩
  · have e5 : f_X11_isHere (gD_s d) (nI p) = some (gV_here (xNow x) p) := here_M h.iv h.rv (by omega)
    have e6 : f_X11_isHere (gD_s d) (nI q) = some (gV_here (xNow x) q) := here_M h.iv h.rv (by omega)
    rw [e1, e2, fgo h hp, fgo h hq, Option.bind_some, Option.bind_some, if_neg (show ¬ (1 : Int32) = 0 by decide)]
    rcases rng v (lo := 0) (hi := 30) (by decide) (by decide) with ⟨k, -, hk, rfl, e3⟩ | ⟨c, hc, e3⟩
    · rw [show f_X11_wrongBy (nI k) (0 : Int32) (30 : Int32) = some 0 from e3, Option.bind_some, Option.bind_some, Option.bind_some, Option.bind_some]
      unfold f_X11_two_20
      rw [if_pos rfl, e5, e6, Option.bind_some, Option.bind_some]
      rw [ref4, if_pos rfl, if_pos rfl]
      by_cases g : gV_here (xNow x) p = 0
      · rw [if_pos g, if_pos g, if_neg rc3.ne]
        refine OK_ref h rc3 ?_ ?_
        · rw [cnt_c rc3, Option.bind_some, if_neg rc3.ne]
        · unfold f_X11_two_53
          rw [if_neg rc3.ne, no_M rc3, Option.bind_some]
      rw [if_neg g, if_neg g, if_pos rfl]
      by_cases g2 : gV_here (xNow x) q = 0
      · rw [if_pos g2, if_pos g2]
        refine OK_ref h rc3 ?_ ?_
        · rw [cnt_c rc3, Option.bind_some, if_neg rc3.ne]
        · unfold f_X11_two_53
          rw [if_neg rc3.ne, no_M rc3, Option.bind_some]
      · rw [if_neg g2, if_neg g2]
        obtain ⟨w, f, f2, e7, e8⟩ := st_X (k := k) h.iv (by omega) h.th hp hq g g2 (by omega)
        obtain ⟨r, e9⟩ := tw_M (k := k) h.iv h.rv hp hq hpq (by omega)
        refine ⟨twT (xNow x) n p q k 4 0, _, sD_m d r, n, W, ?_, ?_, XR_fog h e7 f f2 r⟩
        · rw [cnt_0, Option.bind_some, if_pos rfl, e8, Option.bind_some]
        · unfold f_X11_two_53
          rw [if_pos rfl, e9]
    · rw [show f_X11_wrongBy v (0 : Int32) (30 : Int32) = some c from e3, Option.bind_some, Option.bind_some, Option.bind_some, Option.bind_some]
      refine OK_ref h hc ?_ ?_
      · rw [ref4, if_pos rfl, if_neg hc.ne, cnt_c hc, Option.bind_some, if_neg hc.ne]
      · unfold f_X11_two_20 f_X11_two_53
        rw [if_neg hc.ne, if_neg hc.ne, no_M hc, Option.bind_some]
  · rw [e1, e2]
    obtain ⟨c9, e9⟩ := wb_any v 0 30
    obtain ⟨c8, e8⟩ := fgo_any h a
    obtain ⟨c7, e7⟩ := fgo_any h b
    rw [e9, e8, e7]
    refine OK_ref h rc1 ?_ ?_
    · rw [Option.bind_some, Option.bind_some, Option.bind_some, Option.bind_some, ref4, if_neg (show ¬ (-1 : Int32) = 0 by decide), if_neg (show ¬ (-1 : Int32) = 0 by decide), cnt_c rc1, Option.bind_some, if_neg rc1.ne]
    · unfold f_X11_two_20 f_X11_two_53
      rw [Option.bind_some, if_pos rfl, if_neg (by decide), if_neg (by decide), no_M rc1, Option.bind_some]
