/-! the valley's own: names, the least known, how memory changes -/
theorem IV.n8 {n W : Nat} {u : VS} (h : IV n W u) : n ≤ 8 := h.1
theorem IV.pe {n W : Nat} {u : VS} (h : IV n W u) : gV_people u = nI n := h.2.1
theorem IV.he {n W : Nat} {u : VS} (h : IV n W u) {p : Nat} (hp : p < 8) : gV_here u p = 0 ∨ gV_here u p = 1 := (h.2.2.2.2.1 p hp).2.2.1
theorem IV.ki {n W : Nat} {u : VS} (h : IV n W u) {p : Nat} (hp : p < 8) : ∃ k, k < 6 ∧ gV_kind u p = nI k := (h.2.2.2.2.1 p hp).1
theorem IV.fi {n W : Nat} {u : VS} (h : IV n W u) {p : Nat} (hp : p < 8) : ∃ k, k < 10 ∧ gV_fig u p = nI k := (h.2.2.2.2.1 p hp).2.1
theorem IV.ow {n W : Nat} {u : VS} (h : IV n W u) {p : Nat} (hp : p < 8) : ∃ k, k ≤ 99 ∧ gV_owed u p = nI k := (h.2.2.2.2.1 p hp).2.2.2
theorem IV.me {n W : Nat} {u : VS} (h : IV n W u) {j : Nat} (hj : j < 64) : ∃ k, k ≤ 99 ∧ gV_mem u j = nI k := h.2.2.2.2.2.1 j hj
theorem IV.nz {n W : Nat} {u : VS} (h : IV n W u) : NZ u := h.2.2.2.2.2.2
theorem RV.pe {u : VS} {r : Nat → Int32} (h : RV u r) : r 0 = gV_people u := h.1
theorem RV.we {u : VS} {r : Nat → Int32} (h : RV u r) : r 1 = gV_week u := h.2.1
theorem RV.na {u : VS} {r : Nat → Int32} (h : RV u r) : r 2 = gV_names u := h.2.2.1
theorem RV.ki {u : VS} {r : Nat → Int32} (h : RV u r) {p : Nat} (hp : p < 8) : r (3 + 4 * p + 0) = gV_kind u p := (h.2.2.2.1 p hp).1
theorem RV.fi {u : VS} {r : Nat → Int32} (h : RV u r) {p : Nat} (hp : p < 8) : r (3 + 4 * p + 1) = gV_fig u p := (h.2.2.2.1 p hp).2.1
theorem RV.he {u : VS} {r : Nat → Int32} (h : RV u r) {p : Nat} (hp : p < 8) : r (3 + 4 * p + 2) = gV_here u p := (h.2.2.2.1 p hp).2.2.1
theorem RV.ow {u : VS} {r : Nat → Int32} (h : RV u r) {p : Nat} (hp : p < 8) : r (3 + 4 * p + 3) = gV_owed u p := (h.2.2.2.1 p hp).2.2.2
theorem RV.me {u : VS} {r : Nat → Int32} (h : RV u r) {q p : Nat} (hq : q < 8) (hp : p < 8) : r (35 + 8 * q + p) = gV_mem u (8 * q + p) := h.2.2.2.2 q p hq hp
/-- 1: he may be named -/
def nmv (u : VS) (p : Nat) : Int32 := if gV_kind u p = 4 then 0 else if gV_kind u p = 5 then (if 5 ≤ gV_fig u p then 0 else 1) else 1
theorem k6 {P : Nat → Prop} (h0 : P 0) (h1 : P 1) (h2 : P 2) (h3 : P 3) (h4 : P 4) (h5 : P 5) {k : Nat} (hk : k < 6) : P k := by
  match k, hk with
  | 0, _ => exact h0
  | 1, _ => exact h1
  | 2, _ => exact h2
  | 3, _ => exact h3
  | 4, _ => exact h4
  | 5, _ => exact h5
theorem nm_X {u : VS} {n W p : Nat} (hI : IV n W u) (hp : p < 8) : f_K_isNamed (gV_kind u p) (gV_fig u p) = some (nmv u p) := by
  obtain ⟨k, hk, e⟩ := hI.ki hp
  unfold nmv
  rw [e]
  refine k6 (P := fun k => f_K_isNamed (nI k) (gV_fig u p) = some (if nI k = 4 then 0 else if nI k = 5 then (if 5 ≤ gV_fig u p then 0 else 1) else 1)) ?_ ?_ ?_ ?_ ?_ ?_ hk
  · rfl
  · rfl
  · rfl
  · rfl
  · rfl
  · show f_X9_isNamed (gV_fig u p) = some (if 5 ≤ gV_fig u p then 0 else 1)
    unfold f_X9_isNamed
    split <;> rfl
theorem nm_M {u : VS} {r : Nat → Int32} {n W p : Nat} (hI : IV n W u) (hR : RV u r) (hp : p < 8) : f_X11_mayBeNamed r (nI p) = some (nmv u p) := by
  unfold f_X11_mayBeNamed nmv
  rw [l0, f_of, l1, f_of, ← l0, ← l1]
  simp (disch := omega) only [Option.bind_some, ck_ok, icl, hR.ki hp, hR.fi hp]
  split
  · rfl
  · split
    · split <;> rfl
    · rfl
theorem nmv01 (u : VS) (p : Nat) : nmv u p = 0 ∨ nmv u p = 1 := by
  unfold nmv
  split
  · exact Or.inl rfl
  · split
    · split
      · exact Or.inl rfl
      · exact Or.inr rfl
    · exact Or.inr rfl
/-- the least known of the first i who are here and may be named -/
def lsT (u : VS) (n : Nat) : Nat → Int32
  | 0 => -9
  | i + 1 => if gV_here u i = 0 then lsT u n i else if nmv u i = 0 then lsT u n i else if lsT u n i = -9 then nI i else if kn u n (Int32.toNatClampNeg (lsT u n i)) ≤ kn u n i then lsT u n i else nI i
def ls (u : VS) (n : Nat) : Int32 := lsT u n n
theorem nI_ne_m9 {q : Nat} (h : q < 2 ^ 31) : ¬ nI q = -9 := by
  intro e
  have h1 := nI_toInt h
  rw [e] at h1
  have h2 : (-9 : Int32).toInt = -9 := by decide
  omega
theorem lsT_in (u : VS) (n : Nat) : ∀ i, i ≤ 8 → lsT u n i = -9 ∨ ∃ q, q < i ∧ gV_here u q ≠ 0 ∧ nmv u q ≠ 0 ∧ lsT u n i = nI q := by
  intro i
  induction i with
  | zero => intro _; exact Or.inl rfl
  | succ i ih =>
    intro hi
    have h0 := ih (by omega)
    have keep : (lsT u n i = -9 ∨ ∃ q, q < i ∧ gV_here u q ≠ 0 ∧ nmv u q ≠ 0 ∧ lsT u n i = nI q) → (lsT u n i = -9 ∨ ∃ q, q < i + 1 ∧ gV_here u q ≠ 0 ∧ nmv u q ≠ 0 ∧ lsT u n i = nI q) := by
      rintro (h | ⟨q, h1, h2⟩)
      · exact Or.inl h
      · exact Or.inr ⟨q, by omega, h2⟩
    simp only [lsT]
    split
    · exact keep h0
    · rename_i g1
      split
      · exact keep h0
      · rename_i g2
        split
        · exact Or.inr ⟨i, by omega, g1, g2, rfl⟩
        · split
          · exact keep h0
          · exact Or.inr ⟨i, by omega, g1, g2, rfl⟩
theorem ls_X {u : VS} {n W : Nat} (hI : IV n W u) : f_X8_leastKnown u = some (ls u n) := by
  unfold f_X8_leastKnown f_X8_leastKnown_7
  have hn := hI.n8
  refine lq3_inv (fun i a b c => a = lsT u n i ∧ (lsT u n i = -9 ∨ b = kn u n (Int32.toNatClampNeg (lsT u n i))) ∧ c = nI i) (fun o => o = some (ls u n)) n ?_ smN _ _ _ (smN_gt (by omega)) ⟨rfl, Or.inl rfl, rfl⟩
  rintro i a b c hi ⟨rfl, hb, rfl⟩
  unfold b_X8_leastKnown_7
  rw [hI.pe]
  rcases Nat.lt_or_ge i n with h | h
  · left
    have hi8 : i < 8 := by omega
    have hkn := kn_X hI hi8
    have hki := hI.ki hi8
    obtain ⟨kk, hkk, ek⟩ := hki
    have hnm := nm_X hI hi8
    by_cases g1 : gV_here u i = 0
    · refine ⟨lsT u n (i + 1), b, nI (i + 1), h, ⟨rfl, ?_, rfl⟩, fun k => ?_⟩
      · simp only [lsT, if_pos g1]; exact hb
      · simp (disch := omega) only [ile, icl, ck_ok, i1]
        rw [if_neg (by omega), if_pos g1]
        simp only [lsT, if_pos g1]
    · by_cases g2 : nmv u i = 0
      · refine ⟨lsT u n (i + 1), b, nI (i + 1), h, ⟨rfl, ?_, rfl⟩, fun k => ?_⟩
        · simp only [lsT, if_neg g1, if_pos g2]; exact hb
        · simp (disch := omega) only [ile, icl, ck_ok, i1, hnm, Option.bind_some, f_X8_leastKnown_44]
          rw [if_neg (by omega), if_neg g1, ek, ck_ok hkk (by decide), if_pos g2]
          simp only [lsT, if_neg g1, if_pos g2]
      · by_cases g3 : lsT u n i = -9
        · refine ⟨lsT u n (i + 1), kn u n i, nI (i + 1), h, ⟨rfl, ?_, rfl⟩, fun k => ?_⟩
          · right
            simp only [lsT, if_neg g1, if_neg g2, if_pos g3]
            rw [icl (by omega)]
          · simp (disch := omega) only [ile, icl, ck_ok, i1, hnm, hkn, Option.bind_some, f_X8_leastKnown_44]
            rw [if_neg (by omega), if_neg g1, ek, ck_ok hkk (by decide), if_neg g2, if_pos g3]
            simp only [lsT, if_neg g1, if_neg g2, if_pos g3]
        · have hb' := hb.resolve_left g3
          subst hb'
          by_cases g4 : kn u n (Int32.toNatClampNeg (lsT u n i)) ≤ kn u n i
          · refine ⟨lsT u n (i + 1), kn u n (Int32.toNatClampNeg (lsT u n i)), nI (i + 1), h, ⟨rfl, ?_, rfl⟩, fun k => ?_⟩
            · simp only [lsT, if_neg g1, if_neg g2, if_neg g3, if_pos g4]; exact Or.inr trivial
            · simp (disch := omega) only [ile, icl, ck_ok, i1, hnm, hkn, Option.bind_some, f_X8_leastKnown_44]
              rw [if_neg (by omega), if_neg g1, ek, ck_ok hkk (by decide), if_neg g2, if_neg g3, if_pos g4]
              simp only [lsT, if_neg g1, if_neg g2, if_neg g3, if_pos g4]
          · refine ⟨lsT u n (i + 1), kn u n i, nI (i + 1), h, ⟨rfl, ?_, rfl⟩, fun k => ?_⟩
            · right
              simp only [lsT, if_neg g1, if_neg g2, if_neg g3, if_neg g4]
              rw [icl (by omega)]
            · simp (disch := omega) only [ile, icl, ck_ok, i1, hnm, hkn, Option.bind_some, f_X8_leastKnown_44]
              rw [if_neg (by omega), if_neg g1, ek, ck_ok hkk (by decide), if_neg g2, if_neg g3, if_neg g4]
              simp only [lsT, if_neg g1, if_neg g2, if_neg g3, if_neg g4]
  · right
    obtain rfl : i = n := by omega
    refine ⟨some (lsT u i i), rfl, fun k => ?_⟩
    simp (disch := omega) only [ile]
    rw [if_pos (Nat.le_refl _)]
theorem m9_neg : (-9 : Int32) < 0 := by decide
theorem ls_M {u : VS} {r : Nat → Int32} {n W : Nat} (hI : IV n W u) (hR : RV u r) : f_X11_leastIn r = some (ls u n) := by
  unfold f_X11_leastIn f_X11_leastIn_5
  have hn := hI.n8
  have hpe : r 0 = nI n := hR.pe.trans hI.pe
  refine lq2_inv (fun i a c => a = lsT u n i ∧ c = nI i) (fun o => o = some (ls u n)) n ?_ smN _ _ (smN_gt (by omega)) ⟨rfl, rfl⟩
  rintro i a c hi ⟨rfl, rfl⟩
  unfold b_X11_leastIn_5
  simp only [ck0, cl0, hpe]
  rcases Nat.lt_or_ge i n with h | h
  · left
    have hi8 : i < 8 := by omega
    refine ⟨lsT u n (i + 1), nI (i + 1), h, ⟨rfl, rfl⟩, fun k => ?_⟩
    rw [here_M hI hR hi8, nm_M hI hR hi8, kn_M hI hR hi8]
    simp (disch := omega) only [ile, i1, Option.bind_some]
    rw [if_neg (by omega)]
    simp only [lsT]
    by_cases g1 : gV_here u i = 0
    · rw [if_pos g1, if_pos g1]
    · rw [if_neg g1, if_neg g1]
      by_cases g2 : nmv u i = 0
      · rw [if_pos g2, if_pos g2]
      · rw [if_neg g2, if_neg g2]
        rcases lsT_in u n i (by omega) with g3 | ⟨q, hq, -, -, g3⟩
        · rw [g3, if_pos m9_neg, if_pos rfl]
        · rw [g3, if_neg (nI_pos (by omega)), if_neg (nI_ne_m9 (by omega)), kn_M hI hR (show q < 8 by omega), icl (by omega)]
          simp only [Option.bind_some]
          split <;> rfl
  · right
    obtain rfl : i = n := by omega
    refine ⟨some (lsT u i i), rfl, fun k => ?_⟩
    simp (disch := omega) only [ile]
    rw [if_pos (Nat.le_refl _)]
