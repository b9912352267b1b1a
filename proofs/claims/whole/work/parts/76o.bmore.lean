/-! whom to bring back -/
def mb (u : VS) (n p : Nat) : Nat := if gu (bck u n p) n p < 99 then gu (bck u n p) n p else 99
theorem mb_le (u : VS) (n p : Nat) : mb u n p ≤ 99 := by unfold mb; split <;> omega
def bwT (u : VS) (n : Nat) : Nat → Option Nat
  | 0 => none
  | i + 1 => if gV_here u i = 0 then (match bwT u n i with | none => some i | some q => if mb u n i ≤ mb u n q then some q else some i) else bwT u n i
def bwI : Option Nat → Int32
  | none => -9
  | some q => nI q
theorem bwT_in (u : VS) (n : Nat) : ∀ i q, bwT u n i = some q → q < i ∧ gV_here u q = 0 := by
  intro i
  induction i with
  | zero => intro q h; cases h
  | succ i ih =>
    intro q h
    simp only [bwT] at h
    by_cases g1 : gV_here u i = 0
    · rw [if_pos g1] at h
      cases hb : bwT u n i with
      | none =>
        rw [hb] at h
        have h : some i = some q := h
        cases h
        exact ⟨by omega, g1⟩
      | some q' =>
        rw [hb] at h
        have h : (if mb u n i ≤ mb u n q' then some q' else some i) = some q := h
        have := ih q' hb
        split at h
        · cases h; exact ⟨by omega, this.2⟩
        · cases h; exact ⟨by omega, g1⟩
    · rw [if_neg g1] at h
      have := ih q h
      exact ⟨by omega, this.2⟩
theorem wib_X {u : MS} {n W p : Nat} (hI : IV n W (gM_now u)) (hW : W < 2 ^ 20) (ht : AnyV (gM_then u)) (hp : p < 8) : ∃ w, AnyV w ∧ f_X3_weeksIfBack u (nI p) = some (nI (mb (gM_now u) n p), sM_then u w) := by
  have hG := gu_le (bck (gM_now u) n p) n p
  refine ⟨wks (bck (gM_now u) n p) n (gu (bck (gM_now u) n p) n p), (IV_wks (IV_bck hI hp) _).any, ?_⟩
  unfold f_X3_weeksIfBack
  have e4 : f_X8_comeBack (gM_then (sM_then u (gM_now u))) (nI p) = some (bck (gM_now u) n p) := bck_X hI hp
  have e5 : f_X8_passUntilForgotten (gM_then (sM_then (sM_then u (gM_now u)) (bck (gM_now u) n p))) (nI p) = some (nI (gu (bck (gM_now u) n p) n p), wks (bck (gM_now u) n p) n (gu (bck (gM_now u) n p) n p)) := pu_X (IV_bck hI hp) hW hp
  rw [sa_X hI ht, Option.bind_some, e4, Option.bind_some, e5, Option.bind_some]
  show some ((if nI (gu (bck (gM_now u) n p) n p) < (99 : Int32) then nI (gu (bck (gM_now u) n p) n p) else (99 : Int32)), _) = _
  unfold mb
  simp (disch := omega) only [l99, ilt]
  split <;> rfl
theorem br_X {u : MS} {n W : Nat} (hI : IV n W (gM_now u)) (hW : W < 2 ^ 20) (ht : AnyV (gM_then u)) : ∃ w, AnyV w ∧ f_X3_bestToBring u = some (bwI (bwT (gM_now u) n n), sM_then u w) := by
  have hn := hI.n8
  unfold f_X3_bestToBring f_X3_bestToBring_7
  refine lq4_inv (fun i a b c e => (∃ w, AnyV w ∧ a = sM_then u w) ∧ b = bwI (bwT (gM_now u) n i) ∧ (∀ q, bwT (gM_now u) n i = some q → c = nI (mb (gM_now u) n q)) ∧ e = nI i) (fun o => ∃ w, AnyV w ∧ o = some (bwI (bwT (gM_now u) n n), sM_then u w)) n ?_ smN _ _ _ _ (smN_gt (by omega)) ⟨⟨gM_then u, ht, rfl⟩, rfl, (fun q h => by cases h), rfl⟩
  rintro i a b c e hi ⟨⟨w, hw, rfl⟩, rfl, hc, rfl⟩
  unfold b_X3_bestToBring_7
  have e1 : gV_people (gM_now (sM_then u w)) = nI n := hI.pe
  rw [e1]
  rcases Nat.lt_or_ge i n with h | h
  · left
    have hi8 : i < 8 := by omega
    by_cases g2 : gV_here (gM_now u) i = 0
    · obtain ⟨w2, hw2, ew⟩ := wib_X (u := sM_then u w) (p := i) hI hW hw hi8
      have ew : f_X3_weeksIfBack (sM_then u w) (nI i) = some (nI (mb (gM_now u) n i), sM_then u w2) := ew
      have hml := mb_le (gM_now u) n i
      cases hb : bwT (gM_now u) n i with
      | none =>
        have hs : bwT (gM_now u) n (i + 1) = some i := by simp only [bwT, if_pos g2, hb]
        refine ⟨sM_then u w2, nI i, nI (mb (gM_now u) n i), nI (i + 1), h, ⟨⟨w2, hw2, rfl⟩, by rw [hs]; rfl, fun q hq => by rw [hs] at hq; cases hq; rfl, rfl⟩, fun k => ?_⟩
        simp (disch := omega) only [ile, i1, ck_ok, icl]
        rw [if_neg (by omega), if_pos (show gV_here (gM_now (sM_then u w)) i = 0 from g2), ew, Option.bind_some, if_pos (show bwI none = -9 from rfl)]
      | some q =>
        have hc := hc q hb
        have hmq := mb_le (gM_now u) n q
        have hq := (bwT_in (gM_now u) n i q hb).1
        subst hc
        by_cases g3 : mb (gM_now u) n i ≤ mb (gM_now u) n q
        · have hs : bwT (gM_now u) n (i + 1) = some q := by simp only [bwT, if_pos g2, hb, if_pos g3]
          refine ⟨sM_then u w2, nI q, nI (mb (gM_now u) n q), nI (i + 1), h, ⟨⟨w2, hw2, rfl⟩, by rw [hs]; rfl, fun q' hq' => by rw [hs] at hq'; cases hq'; rfl, rfl⟩, fun k => ?_⟩
          simp (disch := omega) only [ile, i1, ck_ok, icl]
          rw [if_neg (by omega), if_pos (show gV_here (gM_now (sM_then u w)) i = 0 from g2), ew, Option.bind_some, if_neg (show ¬ bwI (some q) = -9 from nI_ne_m9 (by omega))]
          simp (disch := omega) only [ile]
          rw [if_pos g3]
          rfl
        · have hs : bwT (gM_now u) n (i + 1) = some i := by simp only [bwT, if_pos g2, hb, if_neg g3]
          refine ⟨sM_then u w2, nI i, nI (mb (gM_now u) n i), nI (i + 1), h, ⟨⟨w2, hw2, rfl⟩, by rw [hs]; rfl, fun q' hq' => by rw [hs] at hq'; cases hq'; rfl, rfl⟩, fun k => ?_⟩
          simp (disch := omega) only [ile, i1, ck_ok, icl]
          rw [if_neg (by omega), if_pos (show gV_here (gM_now (sM_then u w)) i = 0 from g2), ew, Option.bind_some, if_neg (show ¬ bwI (some q) = -9 from nI_ne_m9 (by omega))]
          simp (disch := omega) only [ile]
          rw [if_neg g3]
    · have hs : bwT (gM_now u) n (i + 1) = bwT (gM_now u) n i := by simp only [bwT, if_neg g2]
      refine ⟨sM_then u w, bwI (bwT (gM_now u) n i), c, nI (i + 1), h, ⟨⟨w, hw, rfl⟩, by rw [hs], by rw [hs]; exact hc, rfl⟩, fun k => ?_⟩
      simp (disch := omega) only [ile, i1, ck_ok, icl]
      rw [if_neg (by omega), if_neg (show ¬ gV_here (gM_now (sM_then u w)) i = 0 from g2)]
  · right
    obtain rfl : i = n := by omega
    refine ⟨_, ⟨w, hw, rfl⟩, fun k => ?_⟩
    simp (disch := omega) only [ile]
    rw [if_pos (Nat.le_refl _)]
def brv (u : VS) (n : Nat) (v : Int32) : Int32 := match bwT u n n with | none => -9 | some q => if v = 0 then nI q else nI (mb u n q)
theorem br_M {d : DS} {u : VS} {n W : Nat} (hI : IV n W u) (hR : RV u (gD_s d)) (v : Int32) : ∃ r, f_X11_bring_24 v smN d (-9) (-1) 0 = some (brv u n v, sD_m d r) := by
  have hn := hI.n8
  unfold f_X11_bring_24
  refine lq4_inv (fun i a b c e => (∃ r, a = sD_m d r) ∧ b = bwI (bwT u n i) ∧ c = (match bwT u n i with | none => -1 | some q => nI (mb u n q)) ∧ e = nI i) (fun o => ∃ r, o = some (brv u n v, sD_m d r)) n ?_ smN _ _ _ _ (smN_gt (by omega)) ⟨⟨gD_m d, rfl⟩, rfl, rfl, rfl⟩
  rintro i a b c e hi ⟨⟨r, rfl⟩, rfl, hc, rfl⟩
  unfold b_X11_bring_24
  have e1 : gD_s (sD_m d r) 0 = nI n := hR.pe.trans hI.pe
  simp only [ck0, cl0, e1]
  rcases Nat.lt_or_ge i n with h | h
  · left
    have hi8 : i < 8 := by omega
    have e2 : f_X11_isHere (gD_s (sD_m d r)) (nI i) = some (gV_here u i) := here_M hI hR hi8
    rw [e2]
    by_cases g2 : gV_here u i = 0
    · have hI2 := IV_bck hI hi8
      have hG := gu_le (bck u n i) n i
      have hml := mb_le u n i
      obtain ⟨r2, k1, k2⟩ := bck_M hI (RV_cp r hR) hi8 g2
      obtain ⟨r3, k3, k4⟩ := gi_M hI2 hi8 (sD_m d r2) k1
      have e3 : f_X11_copies (gD_s (sD_m d r), gD_m (sD_m d r)) = some (gD_s d, cpT (gD_s d) r 99) := copies_M _ _
      have e4 : f_X11_comesBack (gD_m (sD_m (sD_s (sD_m d r) (gD_s d, cpT (gD_s d) r 99).1) (gD_s d, cpT (gD_s d) r 99).2)) (nI i) = some r2 := k2
      have e5 : f_X11_goesIn (sD_m (sD_m (sD_s (sD_m d r) (gD_s d, cpT (gD_s d) r 99).1) (gD_s d, cpT (gD_s d) r 99).2) r2) (nI i) = some (if gu (bck u n i) n i = 100 then -9 else nI (gu (bck u n i) n i), sD_m d r3) := k4
      have key : ∀ (k : DS → Int32 → Int32 → Int32 → Option (Int32 × DS)) (x2 x3 : Int32), (if 0 ≤ (if gu (bck u n i) n i = 100 then (-9 : Int32) else nI (gu (bck u n i) n i), sD_m d r3).1 then (f_X11_bring_90 v k (if gu (bck u n i) n i = 100 then (-9 : Int32) else nI (gu (bck u n i) n i), sD_m d r3).2 x2 x3 (nI i) (if gu (bck u n i) n i = 100 then (-9 : Int32) else nI (gu (bck u n i) n i), sD_m d r3).1) else (f_X11_bring_90 v k (if gu (bck u n i) n i = 100 then (-9 : Int32) else nI (gu (bck u n i) n i), sD_m d r3).2 x2 x3 (nI i) (99 : Int32))) = f_X11_bring_90 v k (sD_m d r3) x2 x3 (nI i) (nI (mb u n i)) := by
        intro k x2 x3
        unfold mb
        by_cases g : gu (bck u n i) n i = 100
        · rw [if_pos g, if_neg (show ¬ (0 : Int32) ≤ -9 by decide), if_neg (by omega)]; rfl
        · rw [if_neg g]
          show (if 0 ≤ nI (gu (bck u n i) n i) then _ else _) = _
          rw [if_pos (nI_pos' (by omega))]
          by_cases g' : gu (bck u n i) n i < 99
          · rw [if_pos g']
          · rw [if_neg g', show gu (bck u n i) n i = 99 by omega]
      cases hb : bwT u n i with
      | none =>
        have hs : bwT u n (i + 1) = some i := by simp only [bwT, if_pos g2, hb]
        rw [hb] at hc
        have hc : c = -1 := hc
        subst hc
        refine ⟨sD_m d r3, nI i, nI (mb u n i), nI (i + 1), h, ⟨⟨r3, rfl⟩, by rw [hs]; rfl, by rw [hs], rfl⟩, fun k => ?_⟩
        simp (disch := omega) only [ile, i1, Option.bind_some]
        rw [if_neg (by omega), if_pos g2, e3, Option.bind_some, e4, Option.bind_some, e5, Option.bind_some, key]
        unfold f_X11_bring_90
        rw [if_pos (Int32.not_le.mp (m1_lt (by omega))), i1]
      | some q =>
        have hmq := mb_le u n q
        have hq := (bwT_in u n i q hb).1
        rw [hb] at hc
        have hc : c = nI (mb u n q) := hc
        subst hc
        by_cases g3 : mb u n i ≤ mb u n q
        · have hs : bwT u n (i + 1) = some q := by simp only [bwT, if_pos g2, hb, if_pos g3]
          refine ⟨sD_m d r3, nI q, nI (mb u n q), nI (i + 1), h, ⟨⟨r3, rfl⟩, by rw [hs]; rfl, by rw [hs], rfl⟩, fun k => ?_⟩
          simp (disch := omega) only [ile, i1, Option.bind_some]
          rw [if_neg (by omega), if_pos g2, e3, Option.bind_some, e4, Option.bind_some, e5, Option.bind_some, key]
          unfold f_X11_bring_90
          simp (disch := omega) only [ilt, i1]
          rw [if_neg (by omega)]
          rfl
        · have hs : bwT u n (i + 1) = some i := by simp only [bwT, if_pos g2, hb, if_neg g3]
          refine ⟨sD_m d r3, nI i, nI (mb u n i), nI (i + 1), h, ⟨⟨r3, rfl⟩, by rw [hs]; rfl, by rw [hs], rfl⟩, fun k => ?_⟩
          simp (disch := omega) only [ile, i1, Option.bind_some]
          rw [if_neg (by omega), if_pos g2, e3, Option.bind_some, e4, Option.bind_some, e5, Option.bind_some, key]
          unfold f_X11_bring_90
          simp (disch := omega) only [ilt, i1]
          rw [if_pos (by omega)]
    · have hs : bwT u n (i + 1) = bwT u n i := by simp only [bwT, if_neg g2]
      refine ⟨sD_m d r, bwI (bwT u n i), c, nI (i + 1), h, ⟨⟨r, rfl⟩, by rw [hs], by rw [hs]; exact hc, rfl⟩, fun k => ?_⟩
      simp (disch := omega) only [ile, i1, Option.bind_some]
      rw [if_neg (by omega), if_neg g2]
  · right
    obtain rfl : i = n := by omega
    refine ⟨some (brv u i v, sD_m d r), ⟨r, rfl⟩, fun k => ?_⟩
    simp (disch := omega) only [ile]
    rw [if_pos (Nat.le_refl _)]
    unfold brv
    cases hb : bwT u i i with
    | none =>
      rw [if_pos (show bwI none < 0 by decide)]
      rfl
    | some q =>
      have hq := (bwT_in u i i q hb).1
      rw [hb] at hc
      have hc : c = nI (mb u i q) := hc
      rw [if_neg (show ¬ bwI (some q) < 0 from nI_pos (by omega)), hc]
      by_cases g : v = 0
      · rw [if_pos g]; simp only [if_pos g]; rfl
      · rw [if_neg g]; simp only [if_neg g]
theorem m_bring {n W : Nat} {x : XS} {d : DS} (h : XR n W x d) (v : Int32) : OKi (f_X10_bring x v) (f_X11_bring d v) := by
  have hw := h.w
  have hn := h.iv.n8
  unfold f_X10_bring f_X11_bring
  rcases wwh v (hi := 1) (by decide) with ⟨k, hk, e, f1, f2⟩ | ⟨f1, f2, -⟩
  · have f1 : f_X10_wrongWhat v (1 : Int32) = some 0 := f1
    have f2 : f_X11_isIn v (0 : Int32) (1 : Int32) = some 1 := f2
    obtain ⟨w, hw1, hw2⟩ := br_X h.iv (by omega) h.th
    obtain ⟨r, hr⟩ := br_M h.iv h.rv v
    have hX : ∃ w', AnyV w' ∧ ((f_X10_wrongWhat v (1 : Int32)).bind fun z3 => ((f_X10_refused x z3).bind fun z6 => (if z6.1 = 0 then ((f_X3_bestToBring (gX_mind z6.2)).bind fun z20 => (if v = 0 then (some (z20.1, (sX_mind z6.2 z20.2))) else (if z20.1 = ((-9) : Int32) then (some (z20.1, (sX_mind z6.2 z20.2))) else ((f_X3_weeksIfBack (gX_mind (sX_mind z6.2 z20.2)) z20.1).bind fun z43 => (some (z43.1, (sX_mind (sX_mind z6.2 z20.2) z43.2))))))) else (some (z6.1, z6.2))))) = some (brv (xNow x) n v, sX_mind x (sM_then (gX_mind x) w')) := by
      rw [f1, Option.bind_some, ref1, cnt_0, Option.bind_some, if_pos rfl, hw2, Option.bind_some]
      unfold brv
      cases hb : bwT (xNow x) n n with
      | none =>
        refine ⟨w, hw1, ?_⟩
        by_cases g : v = 0
        · rw [if_pos g]; rfl
        · rw [if_neg g, if_pos (show bwI none = -9 from rfl)]; rfl
      | some q =>
        have hq := (bwT_in (xNow x) n n q hb).1
        by_cases g : v = 0
        · refine ⟨w, hw1, ?_⟩
          simp only [if_pos g]; rfl
        · obtain ⟨w2, hw3, hw4⟩ := wib_X (u := sM_then (gX_mind x) w) (p := q) h.iv (by omega) hw1 (by omega)
          have hw4 : f_X3_weeksIfBack (gX_mind (sX_mind x (sM_then (gX_mind x) w))) (bwI (some q)) = some (nI (mb (xNow x) n q), sM_then (sM_then (gX_mind x) w) w2) := hw4
          refine ⟨w2, hw3, ?_⟩
          rw [if_neg g, if_neg (show ¬ bwI (some q) = -9 from nI_ne_m9 (by omega)), hw4, Option.bind_some]
          simp only [if_neg g]
    obtain ⟨w', hw', eX⟩ := hX
    refine ⟨brv (xNow x) n v, _, sD_m d r, n, W, eX, ?_, XR_then h hw' r⟩
    rw [f2, Option.bind_some, if_neg (by decide), hr]
  · have f1 : f_X10_wrongWhat v (1 : Int32) = some (-2) := f1
    have f2 : f_X11_isIn v (0 : Int32) (1 : Int32) = some 0 := f2
    refine OK_ref h rc2 ?_ ?_
    · rw [f1, Option.bind_some, ref1, cnt_c rc2, Option.bind_some, if_neg rc2.ne]
    · rw [f2, Option.bind_some, if_pos rfl, no_M rc2, Option.bind_some]
