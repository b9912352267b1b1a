/-! the reference's week, the spring -/
/-- the reference's row, likewise -/
def mT (h : Nat → Int32) (p : Nat) (v : Int32) (r : Nat → Int32) : Nat → (Nat → Int32)
  | 0 => r
  | i + 1 => if i = p then mT h p v r i else if h p = 0 then mT h p v r i else if h i = 0 then mT h p v r i else upd (mT h p v r i) (35 + 8 * i + p) (hold (mT h p v r i (35 + 8 * i + p) + v))
theorem RV_mT {u : VS} {r : Nat → Int32} (hR : RV u r) {p : Nat} (hp : p < 8) (v : Int32) : ∀ i, i ≤ 8 → RV (if gV_here u p = 0 then u else rmT u p v i) (mT (gV_here u) p v r i) := by
  intro i
  induction i with
  | zero => intro _; simp only [rmT, mT, ite_self]; exact hR
  | succ i ih =>
    intro hi
    have h := ih (by omega)
    by_cases g2 : gV_here u p = 0
    · simp only [if_pos g2, mT, ite_self] at h ⊢
      exact h
    · simp only [if_neg g2, mT, rmT] at h ⊢
      split
      · exact h
      · split
        · exact h
        · rw [h.me (show i < 8 by omega) hp]
          exact RV_mem h (by omega) hp _
theorem wk24_M {u : VS} {r : Nat → Int32} {n W p : Nat} (hI : IV n W u) (hR : RV u r) (hp : p < 8) (v : Int32) (k9 : (Nat → Int32) → Int32 → Option (Nat → Int32)) :
    f_X11_week_24 k9 smN r (nI p) v 0 = k9 (mT (gV_here u) p v r n) (nI (p + 1)) := by
  have hn := hI.n8
  unfold f_X11_week_24
  refine lq4_inv (fun i a b c d => a = mT (gV_here u) p v r i ∧ b = nI p ∧ v = c ∧ d = nI i) (fun o => o = k9 (mT (gV_here u) p v r n) (nI (p + 1))) n ?_ smN _ _ _ _ (smN_gt (by omega)) ⟨rfl, rfl, rfl, rfl⟩
  rintro i a b c d hi ⟨rfl, rfl, rfl, rfl⟩
  have hRa := RV_mT hR hp v i (by omega)
  have hk := rmT_keep u p v i
  have hIi : IV n W (if gV_here u p = 0 then u else rmT u p v i) := by
    split
    · exact hI
    · exact IV_rmT hI hp _ _ (by omega)
  have hhe : gV_here (if gV_here u p = 0 then u else rmT u p v i) = gV_here u := by
    split
    · rfl
    · exact hk.2.2.2.1
  unfold b_X11_week_24
  simp only [ck0, cl0, hRa.pe.trans hIi.pe]
  rcases Nat.lt_or_ge i n with h | h
  · left
    have hi8 : i < 8 := by omega
    refine ⟨mT (gV_here u) p v r (i + 1), nI p, v, nI (i + 1), h, ⟨rfl, rfl, rfl, rfl⟩, fun k => ?_⟩
    rw [here_M hIi hRa hp, here_M hIi hRa hi8, f_by, hhe]
    simp (disch := omega) only [ile, ieq, i1, Option.bind_some, ck_ok, icl, hold_M]
    rw [if_neg (by omega)]
    simp only [mT]
    split
    · rfl
    · split
      · rfl
      · split <;> rfl
  · right
    obtain rfl : i = n := by omega
    refine ⟨_, rfl, fun k => ?_⟩
    simp (disch := omega) only [ile, i1]
    rw [if_pos (Nat.le_refl _)]
/-- memory of him becomes x, of the first i -/
def raT (u : VS) (p : Nat) (x : Int32) : Nat → VS
  | 0 => u
  | i + 1 => if i = p then raT u p x i else if gV_here u i = 0 then raT u p x i else sV_mem (raT u p x i) (upd (gV_mem (raT u p x i)) (8 * i + p) x)
theorem raT_keep (u : VS) (p : Nat) (v : Int32) (i : Nat) : gV_kind (raT u p v i) = gV_kind u ∧ gV_fig (raT u p v i) = gV_fig u ∧ gV_owed (raT u p v i) = gV_owed u ∧ gV_here (raT u p v i) = gV_here u ∧ gV_people (raT u p v i) = gV_people u ∧ gV_names (raT u p v i) = gV_names u ∧ gV_week (raT u p v i) = gV_week u := by
  induction i with
  | zero => exact ⟨rfl, rfl, rfl, rfl, rfl, rfl, rfl⟩
  | succ i ih =>
    simp only [raT]
    split
    · exact ih
    · split
      · exact ih
      · exact ih
theorem IV_raT {n W : Nat} {u : VS} (h : IV n W u) {p : Nat} (hp : p < 8) {x : Int32} (hx : ∃ v, v ≤ 99 ∧ x = nI v) : ∀ i, i ≤ 8 → IV n W (raT u p x i) := by
  intro i
  induction i with
  | zero => intro _; exact h
  | succ i ih =>
    intro hi
    have ih := ih (by omega)
    simp only [raT]
    split
    · exact ih
    · split
      · exact ih
      · exact IV_mem ih (by omega) hx
theorem ra_X {u : VS} {n W p : Nat} (hI : IV n W u) (hp : p < 8) (x : Int32) : f_X8_rememberAs u (nI p) x = some (raT u p x n) := by
  unfold f_X8_rememberAs f_X8_rememberAs_2
  have hn := hI.n8
  refine lq2_inv (fun i a b => a = raT u p x i ∧ b = nI i) (fun o => o = some (raT u p x n)) n ?_ smN _ _ (smN_gt (by omega)) ⟨rfl, rfl⟩
  rintro i a b hi ⟨rfl, rfl⟩
  have hk := raT_keep u p x i
  unfold b_X8_rememberAs_2
  rw [hk.2.2.2.2.1, hk.2.2.2.1, hI.pe]
  rcases Nat.lt_or_ge i n with h | h
  · left
    refine ⟨raT u p x (i + 1), nI (i + 1), h, ⟨rfl, rfl⟩, fun k => ?_⟩
    simp (disch := omega) only [ile, ieq, icl, ck_ok, i1, ix8]
    rw [if_neg (by omega)]
    simp only [raT]
    split
    · rfl
    · split <;> rfl
  · right
    obtain rfl : i = n := by omega
    refine ⟨some (raT u p x i), rfl, fun k => ?_⟩
    simp (disch := omega) only [ile]
    rw [if_pos (Nat.le_refl _)]
theorem nz0 : vp_nar .boolean (0 : Int32) = 0 := by decide
theorem nz1 : vp_nar .boolean (1 : Int32) = 1 := by decide
/-- he is forgotten -/
def fgt (u : VS) (n p : Nat) : VS := raT (sV_owed (sV_here u (upd (gV_here u) p 0)) (upd (gV_owed u) p 0)) p 0 n
theorem IV_fgt {n W : Nat} {u : VS} (h : IV n W u) {p : Nat} (hp : p < 8) : IV n W (fgt u n p) := by
  unfold fgt
  refine IV_raT ?_ hp ⟨0, by decide, rfl⟩ _ h.n8
  exact IV_owed (u := sV_here u (upd (gV_here u) p 0)) (IV_here h hp (Or.inl rfl)) hp ⟨0, by decide, rfl⟩
theorem fg_X {u : VS} {n W p : Nat} (hI : IV n W u) (hp : p < 8) : f_X8_forget u (nI p) = some (fgt u n p) := by
  unfold f_X8_forget
  simp (disch := omega) only [ck_ok, icl, nz0, Option.bind_some]
  have h1 : IV n W (sV_owed (sV_here u (upd (gV_here u) p 0)) (upd (gV_owed u) p 0)) := IV_owed (u := sV_here u (upd (gV_here u) p 0)) (IV_here hI hp (Or.inl rfl)) hp ⟨0, by decide, rfl⟩
  rw [ra_X h1 hp]
  rfl
theorem fg_M {u : VS} {r : Nat → Int32} {n W p : Nat} (hI : IV n W u) (hR : RV u r) (hp : p < 8) : ∃ r', RV (fgt u n p) r' ∧ f_X11_forgets r (nI p) = some r' := by
  have hn := hI.n8
  unfold f_X11_forgets
  have e2 : f_X11_of (nI p) (2 : Int32) = some (nI (3 + 4 * p + 2)) := f_of p 2
  have e3 : f_X11_of (nI p) (3 : Int32) = some (nI (3 + 4 * p + 3)) := f_of p 3
  simp (disch := omega) only [e2, e3, Option.bind_some, ck_ok, icl]
  have h1 : IV n W (sV_owed (sV_here u (upd (gV_here u) p 0)) (upd (gV_owed u) p 0)) := IV_owed (u := sV_here u (upd (gV_here u) p 0)) (IV_here hI hp (Or.inl rfl)) hp ⟨0, by decide, rfl⟩
  have hR1 : RV (sV_owed (sV_here u (upd (gV_here u) p 0)) (upd (gV_owed u) p 0)) (upd (upd r (3 + 4 * p + 2) 0) (3 + 4 * p + 3) 0) := RV_owed (u := sV_here u (upd (gV_here u) p 0)) (RV_here hR hp 0) hp 0
  have hp0 : gV_here (sV_owed (sV_here u (upd (gV_here u) p 0)) (upd (gV_owed u) p 0)) p = 0 := us
  unfold fgt
  generalize hw : sV_owed (sV_here u (upd (gV_here u) p 0)) (upd (gV_owed u) p 0) = w at h1 hR1 hp0 ⊢
  generalize hr : upd (upd r (3 + 4 * p + 2) 0) (3 + 4 * p + 3) 0 = r1 at hR1 ⊢
  unfold f_X11_forgets_18
  refine lq2_inv (fun i a b => RV (raT w p 0 i) a ∧ b = nI i) (fun o => ∃ r', RV (raT w p 0 n) r' ∧ o = some r') n ?_ smN _ _ (smN_gt (by omega)) ⟨hR1, rfl⟩
  rintro i a b hi ⟨hRa, rfl⟩
  have hk := raT_keep w p 0 i
  have hIi := IV_raT (x := 0) h1 hp ⟨0, by decide, rfl⟩ i (by omega)
  unfold b_X11_forgets_18
  simp only [ck0, cl0, hRa.pe.trans hIi.pe]
  rcases Nat.lt_or_ge i n with h | h
  · left
    have hi8 : i < 8 := by omega
    rw [here_M hIi hRa hi8, f_by, hk.2.2.2.1]
    by_cases g1 : i = p
    · refine ⟨a, nI (i + 1), h, ⟨?_, rfl⟩, fun k => ?_⟩
      · simp only [raT, if_pos g1]; exact hRa
      · simp (disch := omega) only [ile, ieq, i1, Option.bind_some]
        rw [if_neg (by omega), g1, if_pos hp0]
    · by_cases g3 : gV_here w i = 0
      · refine ⟨a, nI (i + 1), h, ⟨?_, rfl⟩, fun k => ?_⟩
        · simp only [raT, if_neg g1, if_pos g3]; exact hRa
        · simp (disch := omega) only [ile, ieq, i1, Option.bind_some]
          rw [if_neg (by omega), if_pos g3]
      · refine ⟨upd a (35 + 8 * i + p) 0, nI (i + 1), h, ⟨?_, rfl⟩, fun k => ?_⟩
        · simp only [raT, if_neg g1, if_neg g3]
          exact RV_mem hRa hi8 hp _
        · simp (disch := omega) only [ile, ieq, i1, Option.bind_some, ck_ok, icl]
          rw [if_neg (by omega), if_neg g3]
  · right
    obtain rfl : i = n := by omega
    refine ⟨some a, ⟨a, hRa, rfl⟩, fun k => ?_⟩
    simp (disch := omega) only [ile, i1]
    rw [if_pos (Nat.le_refl _)]
/-- k times the least known is forgotten -/
def spT (u : VS) (n : Nat) : Nat → VS
  | 0 => u
  | k + 1 => if ls (spT u n k) n = -9 then spT u n k else fgt (spT u n k) n (Int32.toNatClampNeg (ls (spT u n k) n))
theorem fgt_keep (u : VS) (n p : Nat) : gV_kind (fgt u n p) = gV_kind u ∧ gV_fig (fgt u n p) = gV_fig u ∧ gV_people (fgt u n p) = gV_people u ∧ gV_names (fgt u n p) = gV_names u ∧ gV_week (fgt u n p) = gV_week u ∧ gV_here (fgt u n p) = upd (gV_here u) p 0 := by
  have h := raT_keep (sV_owed (sV_here u (upd (gV_here u) p 0)) (upd (gV_owed u) p 0)) p 0 n
  exact ⟨h.1, h.2.1, h.2.2.2.2.1, h.2.2.2.2.2.1, h.2.2.2.2.2.2, h.2.2.2.1⟩
theorem spT_keep (u : VS) (n k : Nat) : gV_names (spT u n k) = gV_names u ∧ gV_week (spT u n k) = gV_week u ∧ gV_kind (spT u n k) = gV_kind u ∧ gV_fig (spT u n k) = gV_fig u := by
  induction k with
  | zero => exact ⟨rfl, rfl, rfl, rfl⟩
  | succ k ih =>
    simp only [spT]
    split
    · exact ih
    · have h := fgt_keep (spT u n k) n (Int32.toNatClampNeg (ls (spT u n k) n))
      exact ⟨h.2.2.2.1.trans ih.1, h.2.2.2.2.1.trans ih.2.1, h.1.trans ih.2.2.1, h.2.1.trans ih.2.2.2⟩
theorem ls_in {n W : Nat} {u : VS} (hI : IV n W u) : ls u n = -9 ∨ ∃ q, q < n ∧ gV_here u q ≠ 0 ∧ nmv u q ≠ 0 ∧ ls u n = nI q := lsT_in u n n hI.n8
theorem IV_spT {n W : Nat} {u : VS} (h : IV n W u) (k : Nat) : IV n W (spT u n k) := by
  induction k with
  | zero => exact h
  | succ k ih =>
    simp only [spT]
    rcases ls_in ih with g | ⟨q, hq, -, -, g⟩
    · rw [if_pos g]; exact ih
    · have hn := h.n8
      rw [g, if_neg (nI_ne_m9 (by omega)), icl (by omega)]
      exact IV_fgt ih (by omega)
theorem sp_X {u : VS} {n W k : Nat} (hI : IV n W u) (hk : gV_names u = nI k) (hk3 : k ≤ 3) : f_X8_passSpring u = some (spT u n k) := by
  unfold f_X8_passSpring f_X8_passSpring_2
  refine lq2_inv (fun i a b => a = spT u n i ∧ b = nI i) (fun o => o = some (spT u n k)) k ?_ smN _ _ (smN_gt (by omega)) ⟨rfl, rfl⟩
  rintro i a b hi ⟨rfl, rfl⟩
  have hIi := IV_spT hI i
  unfold b_X8_passSpring_2
  rw [(spT_keep u n i).1, hk, ls_X hIi]
  rcases Nat.lt_or_ge i k with h | h
  · left
    refine ⟨spT u n (i + 1), nI (i + 1), h, ⟨rfl, rfl⟩, fun kk => ?_⟩
    simp (disch := omega) only [ile, i1, Option.bind_some]
    rw [if_neg (by omega)]
    simp only [spT]
    rcases ls_in hIi with g | ⟨q, hq, -, -, g⟩
    · rw [g, if_pos rfl, if_pos rfl]
    · have hn := hI.n8
      rw [g, if_neg (nI_ne_m9 (by omega)), if_neg (nI_ne_m9 (by omega)), icl (by omega), fg_X hIi (by omega), Option.bind_some]
  · right
    obtain rfl : i = k := by omega
    refine ⟨some (spT u n i), rfl, fun kk => ?_⟩
    simp (disch := omega) only [ile]
    rw [if_pos (Nat.le_refl _)]
theorem sp_M {u : VS} {r : Nat → Int32} {n W k : Nat} (hI : IV n W u) (hR : RV u r) (hk : gV_names u = nI k) (hk3 : k ≤ 3) : ∃ r', RV (if gV_week u - gV_week u / 10 * 10 = 0 then spT u n k else u) r' ∧ f_X11_week_85 smN r 0 = some r' := by
  have hn := hI.n8
  unfold f_X11_week_85
  by_cases g0 : gV_week u - gV_week u / 10 * 10 = 0
  · rw [if_pos g0]
    refine lq2_inv (fun i a b => RV (spT u n i) a ∧ b = nI i) (fun o => ∃ r', RV (spT u n k) r' ∧ o = some r') k ?_ smN _ _ (smN_gt (by omega)) ⟨hR, rfl⟩
    rintro i a b hi ⟨hRa, rfl⟩
    have hIi := IV_spT hI i
    have hkk := spT_keep u n i
    unfold b_X11_week_85
    simp only [ck1, ck2, cl1, cl2, hRa.na, hRa.we, hkk.1, hkk.2.1, hk, if_pos g0]
    rcases Nat.lt_or_ge i k with h | h
    · left
      rw [ls_M hIi hRa]
      rcases ls_in hIi with g | ⟨q, hq, -, -, g⟩
      · refine ⟨a, nI (i + 1), h, ⟨?_, rfl⟩, fun kk => ?_⟩
        · simp only [spT, if_pos g]; exact hRa
        · simp (disch := omega) only [ile, i1, Option.bind_some]
          rw [if_neg (by omega), g, if_pos m9_neg]
      · obtain ⟨r', h1, h2⟩ := fg_M hIi hRa (show q < 8 by omega)
        refine ⟨r', nI (i + 1), h, ⟨?_, rfl⟩, fun kk => ?_⟩
        · simp only [spT]
          rw [g, if_neg (nI_ne_m9 (by omega)), icl (by omega)]
          exact h1
        · simp (disch := omega) only [ile, i1, Option.bind_some]
          rw [if_neg (by omega), g, if_neg (nI_pos (by omega)), h2, Option.bind_some]
    · right
      obtain rfl : i = k := by omega
      refine ⟨some a, ⟨a, hRa, rfl⟩, fun kk => ?_⟩
      simp (disch := omega) only [ile]
      rw [if_pos (Nat.le_refl _)]
  · rw [if_neg g0]
    refine lq2_inv (fun i a b => a = r ∧ b = nI 0 ∧ i = 0) (fun o => ∃ r', RV u r' ∧ o = some r') 0 ?_ smN _ _ (smN_gt (by omega)) ⟨rfl, rfl, rfl⟩
    rintro i a b hi ⟨rfl, rfl, rfl⟩
    right
    refine ⟨some a, ⟨a, hR, rfl⟩, fun kk => ?_⟩
    unfold b_X11_week_85
    simp only [ck1, ck2, cl1, cl2, hR.we, if_neg g0, ite_self]
