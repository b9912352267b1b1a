theorem or0 (x : Int32) : x ||| 0 = x := by simp
theorem knT_nn {n W : Nat} {u : VS} (hI : IV n W u) {p : Nat} (hp : p < 8) : ∀ i, i ≤ 8 → ∃ s, s ≤ 99 * i ∧ knT u p i = nI s := by
  intro i
  induction i with
  | zero => intro _; exact ⟨0, by decide, rfl⟩
  | succ i ih =>
    intro hi
    obtain ⟨s, hs, e⟩ := ih (by omega)
    simp only [knT]
    split
    · exact ⟨s, by omega, e⟩
    · split
      · exact ⟨s, by omega, e⟩
      · obtain ⟨k, hk, e2⟩ := hI.me (show 8 * i + p < 64 by omega)
        exact ⟨s + k, by omega, by rw [e, e2, nI_add]⟩
theorem kn_nn {n W : Nat} {u : VS} (hI : IV n W u) {p : Nat} (hp : p < 8) : ∃ s, s ≤ 792 ∧ kn u n p = nI s := by
  obtain ⟨s, hs, e⟩ := knT_nn hI hp n hI.n8
  have := hI.n8
  exact ⟨s, by omega, e⟩
/-- the best known of the first i who are here -/
def bkT (u : VS) (n : Nat) : Nat → Int32
  | 0 => -9
  | i + 1 => if gV_here u i = 0 then bkT u n i else if bkT u n i = -9 then nI i else if kn u n i ≤ kn u n (Int32.toNatClampNeg (bkT u n i)) then bkT u n i else nI i
theorem bkT_in (u : VS) (n : Nat) : ∀ i, i ≤ 8 → bkT u n i = -9 ∨ ∃ q, q < i ∧ bkT u n i = nI q := by
  intro i
  induction i with
  | zero => intro _; exact Or.inl rfl
  | succ i ih =>
    intro hi
    have keep : (bkT u n i = -9 ∨ ∃ q, q < i ∧ bkT u n i = nI q) → (bkT u n i = -9 ∨ ∃ q, q < i + 1 ∧ bkT u n i = nI q) := by
      rintro (h | ⟨q, h1, h2⟩)
      · exact Or.inl h
      · exact Or.inr ⟨q, by omega, h2⟩
    have h0 := keep (ih (by omega))
    simp only [bkT]
    split
    · exact h0
    · split
      · exact Or.inr ⟨i, by omega, rfl⟩
      · split
        · exact h0
        · exact Or.inr ⟨i, by omega, rfl⟩
theorem m1_lt {s : Nat} (h : s < 2 ^ 31) : ¬ nI s ≤ -1 := by
  intro g
  have h1 := Int32.le_iff_toInt_le.mp g
  rw [nI_toInt h, show (-1 : Int32).toInt = -1 by decide] at h1
  omega
theorem bk_X {u : VS} {n W : Nat} (hI : IV n W u) : f_X8_bestKnown u = some (bkT u n n) := by
  unfold f_X8_bestKnown f_X8_bestKnown_7
  have hn := hI.n8
  refine lq3_inv (fun i a b c => a = bkT u n i ∧ ((bkT u n i = -9 ∧ b = -1) ∨ (¬ bkT u n i = -9 ∧ b = kn u n (Int32.toNatClampNeg (bkT u n i)))) ∧ c = nI i) (fun o => o = some (bkT u n n)) n ?_ smN _ _ _ (smN_gt (by omega)) ⟨rfl, Or.inl ⟨rfl, rfl⟩, rfl⟩
  rintro i a b c hi ⟨rfl, hb, rfl⟩
  unfold b_X8_bestKnown_7
  rw [hI.pe]
  rcases Nat.lt_or_ge i n with h | h
  · left
    have hi8 : i < 8 := by omega
    have hkn := kn_X hI hi8
    obtain ⟨sk, hsk, ek⟩ := kn_nn hI hi8
    by_cases g1 : gV_here u i = 0
    · refine ⟨bkT u n (i + 1), b, nI (i + 1), h, ⟨rfl, ?_, rfl⟩, fun k => ?_⟩
      · simp only [bkT, if_pos g1]; exact hb
      · simp (disch := omega) only [ile, icl, ck_ok, i1]
        rw [if_neg (by omega), if_pos g1]
        simp only [bkT, if_pos g1]
    · rcases hb with ⟨g3, rfl⟩ | ⟨g3, rfl⟩
      · refine ⟨bkT u n (i + 1), kn u n i, nI (i + 1), h, ⟨rfl, Or.inr ?_, rfl⟩, fun k => ?_⟩
        · simp only [bkT, if_neg g1, if_pos g3]
          exact ⟨nI_ne_m9 (by omega), by rw [icl (by omega)]⟩
        · simp (disch := omega) only [ile, icl, ck_ok, i1, hkn, Option.bind_some]
          rw [if_neg (by omega), if_neg g1, if_neg (by rw [ek]; exact m1_lt (by omega))]
          simp only [bkT, if_neg g1, if_pos g3]
      · by_cases g4 : kn u n i ≤ kn u n (Int32.toNatClampNeg (bkT u n i))
        · refine ⟨bkT u n (i + 1), kn u n (Int32.toNatClampNeg (bkT u n i)), nI (i + 1), h, ⟨rfl, Or.inr ?_, rfl⟩, fun k => ?_⟩
          · simp only [bkT, if_neg g1, if_neg g3, if_pos g4]; exact ⟨g3, trivial⟩
          · simp (disch := omega) only [ile, icl, ck_ok, i1, hkn, Option.bind_some]
            rw [if_neg (by omega), if_neg g1, if_pos g4]
            simp only [bkT, if_neg g1, if_neg g3, if_pos g4]
        · refine ⟨bkT u n (i + 1), kn u n i, nI (i + 1), h, ⟨rfl, Or.inr ?_, rfl⟩, fun k => ?_⟩
          · simp only [bkT, if_neg g1, if_neg g3, if_neg g4]
            exact ⟨nI_ne_m9 (by omega), by rw [icl (by omega)]⟩
          · simp (disch := omega) only [ile, icl, ck_ok, i1, hkn, Option.bind_some]
            rw [if_neg (by omega), if_neg g1, if_neg g4]
            simp only [bkT, if_neg g1, if_neg g3, if_neg g4]
  · right
    obtain rfl : i = n := by omega
    refine ⟨_, rfl, fun k => ?_⟩
    simp (disch := omega) only [ile]
    rw [if_pos (Nat.le_refl _)]
theorem bk_M {d : DS} {u : VS} {n W : Nat} (hI : IV n W u) (hR : RV u (gD_s d)) : f_X11_least_33 smN d (-9) 0 = some (bkT u n n, d) := by
  unfold f_X11_least_33
  have hn := hI.n8
  refine lq3_inv (fun i z a c => z = d ∧ a = bkT u n i ∧ c = nI i) (fun o => o = some (bkT u n n, d)) n ?_ smN _ _ _ (smN_gt (by omega)) ⟨rfl, rfl, rfl⟩
  rintro i z a c hi ⟨rfl, rfl, rfl⟩
  unfold b_X11_least_33
  simp only [ck0, cl0, hR.pe.trans hI.pe]
  rcases Nat.lt_or_ge i n with h | h
  · left
    have hi8 : i < 8 := by omega
    refine ⟨z, bkT u n (i + 1), nI (i + 1), h, ⟨rfl, rfl, rfl⟩, fun k => ?_⟩
    rw [here_M hI hR hi8, kn_M hI hR hi8]
    simp (disch := omega) only [ile, i1, Option.bind_some]
    rw [if_neg (by omega)]
    simp only [bkT]
    by_cases g1 : gV_here u i = 0
    · rw [if_pos g1, if_pos g1]
    · rw [if_neg g1, if_neg g1]
      rcases bkT_in u n i (by omega) with g3 | ⟨q, hq, g3⟩
      · rw [g3, if_pos m9_neg, if_pos rfl]
      · rw [g3, if_neg (nI_pos (by omega)), if_neg (nI_ne_m9 (by omega)), kn_M hI hR (show q < 8 by omega), icl (by omega)]
        simp only [Option.bind_some]
        split <;> rfl
  · right
    obtain rfl : i = n := by omega
    refine ⟨_, rfl, fun k => ?_⟩
    simp (disch := omega) only [ile]
    rw [if_pos (Nat.le_refl _)]
theorem m_least {n W : Nat} {x : XS} {d : DS} (h : XR n W x d) (v : Int32) : OKi (f_X10_least x v) (f_X11_least d v) := by
  unfold f_X10_least f_X11_least
  rcases wwh v (hi := 1) (by decide) with ⟨k, hk, rfl, f1, f2⟩ | ⟨f1, f2, -⟩
  · have f1 : f_X10_wrongWhat (nI k) (1 : Int32) = some 0 := f1
    have f2 : f_X11_isIn (nI k) (0 : Int32) (1 : Int32) = some 1 := f2
    by_cases g : k = 0
    · subst g
      have e : f_X8_leastKnown (gM_now (gX_mind (((0 : Int32), x)).2)) = some (ls (xNow x) n) := ls_X h.iv
      refine ⟨ls (xNow x) n, x, d, n, W, ?_, ?_, h⟩
      · rw [f1, Option.bind_some, ref1, cnt_0, Option.bind_some, if_pos rfl, if_pos (by decide), e, Option.bind_some]
      · rw [f2, Option.bind_some, if_neg (by decide), if_pos (by decide), ls_M h.iv h.rv, Option.bind_some]
    · have g1 : k = 1 := by omega
      subst g1
      have e : f_X8_bestKnown (gM_now (gX_mind (((0 : Int32), x)).2)) = some (bkT (xNow x) n n) := bk_X h.iv
      refine ⟨bkT (xNow x) n n, x, d, n, W, ?_, ?_, h⟩
      · rw [f1, Option.bind_some, ref1, cnt_0, Option.bind_some, if_pos rfl, if_neg (by decide), e, Option.bind_some]
      · rw [f2, Option.bind_some, if_neg (by decide), if_neg (by decide), bk_M h.iv h.rv]
  · have f1 : f_X10_wrongWhat v (1 : Int32) = some (-2) := f1
    have f2 : f_X11_isIn v (0 : Int32) (1 : Int32) = some 0 := f2
    refine OK_ref h rc2 ?_ ?_
    · rw [f1, Option.bind_some, ref1, cnt_c rc2, Option.bind_some, if_neg rc2.ne]
    · rw [f2, Option.bind_some, if_pos rfl, no_M rc2, Option.bind_some]
