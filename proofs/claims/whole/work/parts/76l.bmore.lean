/-- the first told number that is not so, of m more from the i-th -/
def jgT (u : VS) (n : Nat) (row : Nat → Int32) : Nat → Nat → Int32
  | 0, _ => -9
  | m + 1, i => if nI (cnt (wks u n i) n) = row i then jgT u n row m (i + 1) else nI i
theorem jg_X {u : MS} {n W L : Nat} {row : Nat → Int32} (hI : IV n W (gM_now u)) (hW : W < 2 ^ 20) (ht : AnyV (gM_then u)) (hL : L ≤ 16) (hs : gR_size (gM_row u) = nI L) (hr : ∀ i, i < L → gR_num (gM_row u) i = row i) : ∃ w, AnyV w ∧ f_X3_firstNotSo u = some (jgT (gM_now u) n row L 0, sM_then u w) := by
  generalize hG : jgT (gM_now u) n row L 0 = G
  unfold f_X3_firstNotSo f_X3_firstNotSo_6
  rw [sa_X hI ht, Option.bind_some]
  refine lq2_inv (fun i a b => a = sM_then u (wks (gM_now u) n i) ∧ b = nI i ∧ jgT (gM_now u) n row (L - i) i = G) (fun o => ∃ w, AnyV w ∧ o = some (G, sM_then u w)) L ?_ smN _ _ (smN_gt (by omega)) ⟨rfl, rfl, by rw [Nat.sub_zero]; exact hG⟩
  rintro i a b hi ⟨rfl, rfl, hg⟩
  have hIi := IV_wks hI i
  unfold b_X3_firstNotSo_6
  have e1 : gR_size (gM_row (sM_then u (wks (gM_now u) n i))) = nI L := hs
  have e2 : f_X8_countHere (gM_then (sM_then u (wks (gM_now u) n i))) = some (nI (cnt (wks (gM_now u) n i) n)) := ch_cnt hIi
  have e3 : f_X8_passWeek (gM_then (sM_then u (wks (gM_now u) n i))) = some (wk (wks (gM_now u) n i) n) := wk_X hIi (by omega)
  rw [e1, e2, e3]
  rcases Nat.lt_or_ge i L with h | h
  · rw [show L - i = (L - i - 1) + 1 by omega] at hg
    simp only [jgT] at hg
    have e4 : gR_num (gM_row (sM_then u (wks (gM_now u) n i))) i = row i := hr i h
    by_cases g : nI (cnt (wks (gM_now u) n i) n) = row i
    · left
      rw [if_pos g] at hg
      refine ⟨sM_then u (wks (gM_now u) n (i + 1)), nI (i + 1), h, ⟨rfl, rfl, by rw [show L - (i + 1) = L - i - 1 by omega]; exact hg⟩, fun k => ?_⟩
      simp (disch := omega) only [ile, icl, ck_ok, i1, Option.bind_some, e4]
      rw [if_neg (by omega), if_pos g]
      rfl
    · right
      rw [if_neg g] at hg
      refine ⟨_, ⟨_, hIi.any, rfl⟩, fun k => ?_⟩
      simp (disch := omega) only [ile, icl, ck_ok, i1, Option.bind_some, e4]
      rw [if_neg (by omega), if_neg g, ← hg]
  · right
    have hi : i = L := by omega
    rw [hi, Nat.sub_self] at hg
    simp only [jgT] at hg
    refine ⟨_, ⟨_, hIi.any, rfl⟩, fun k => ?_⟩
    simp (disch := omega) only [ile]
    rw [if_pos h, ← hg]
theorem jg_M {d : DS} {u : VS} {n W L : Nat} {row : Nat → Int32} (hI : IV n W u) (hR : RV u (gD_m d)) (hL : L ≤ 16) (hr : ∀ i, i < L → gD_row d i = row i) : ∃ r, f_X11_judge_23 smN d (nI L) 0 = some (jgT u n row L 0, sD_m d r) := by
  generalize hG : jgT u n row L 0 = G
  have hn := hI.n8
  unfold f_X11_judge_23
  refine lq3_inv (fun i z a b => (∃ r, RV (wks u n i) r ∧ z = sD_m d r) ∧ a = nI L ∧ b = nI i ∧ jgT u n row (L - i) i = G) (fun o => ∃ r, o = some (G, sD_m d r)) L ?_ smN _ _ _ (smN_gt (by omega)) ⟨⟨gD_m d, hR, rfl⟩, rfl, rfl, by rw [Nat.sub_zero]; exact hG⟩
  rintro i z a b hi ⟨⟨r, hRa, rfl⟩, rfl, rfl, hg⟩
  have hIi := IV_wks hI i
  unfold b_X11_judge_23
  have e2 : f_X11_hereIn (gD_m (sD_m d r)) = some (nI (hbN (wks u n i) n)) := hb_M hIi hRa
  obtain ⟨r', g1, g2⟩ := wk_M hIi hRa
  have e3 : f_X11_week (gD_m (sD_m d r)) = some r' := g2
  rw [e2, e3]
  rcases Nat.lt_or_ge i L with h | h
  · rw [show L - i = (L - i - 1) + 1 by omega] at hg
    simp only [jgT] at hg
    have e4 : gD_row (sD_m d r) i = row i := hr i h
    have e5 : f_X11_bits (nI (hbN (wks u n i) n)) = some (nI (cnt (wks u n i) n)) := bc_M (hbN_256 _ hn)
    by_cases g : nI (cnt (wks u n i) n) = row i
    · left
      rw [if_pos g] at hg
      refine ⟨sD_m d r', nI L, nI (i + 1), h, ⟨⟨r', g1, rfl⟩, rfl, rfl, by rw [show L - (i + 1) = L - i - 1 by omega]; exact hg⟩, fun k => ?_⟩
      simp (disch := omega) only [ile, icl, ck_ok, i1, Option.bind_some, e4, e5]
      rw [if_neg (by omega), if_pos g]
    · right
      rw [if_neg g] at hg
      refine ⟨_, ⟨r, rfl⟩, fun k => ?_⟩
      simp (disch := omega) only [ile, icl, ck_ok, i1, Option.bind_some, e4, e5]
      rw [if_neg (by omega), if_neg g, ← hg]
  · right
    have hi : i = L := by omega
    rw [hi, Nat.sub_self] at hg
    simp only [jgT] at hg
    refine ⟨_, ⟨r, rfl⟩, fun k => ?_⟩
    simp (disch := omega) only [ile]
    rw [if_pos h, ← hg]
theorem m_judge {n W : Nat} {x : XS} {d : DS} (h : XR n W x d) : OKi (f_X10_judge x) (f_X11_judge d) := by
  have hw := h.w
  obtain ⟨L, hL, e1, e2, e3⟩ := h.2.2.2.2.2.2.2.2.2
  obtain ⟨w, hw1, hw2⟩ := jg_X (row := gD_row d) h.iv (by omega) h.th hL e1 (fun i hi => (e3 i hi).1)
  unfold f_X10_judge f_X11_judge
  rw [copies_M, Option.bind_some]
  obtain ⟨r, hr⟩ := jg_M (d := sD_m (sD_s (sD_rowN d 0) (gD_s (sD_rowN d 0), cpT (gD_s (sD_rowN d 0)) (gD_m (sD_rowN d 0)) 99).1) (gD_s (sD_rowN d 0), cpT (gD_s (sD_rowN d 0)) (gD_m (sD_rowN d 0)) 99).2) (row := gD_row d) h.iv (RV_cp (gD_m d) h.rv) hL (fun i hi => rfl)
  refine ⟨jgT (xNow x) n (gD_row d) L 0, sX_mind x (sM_row (sM_then (gX_mind x) w) (sR_size (gM_row (gX_mind x)) 0)), sD_m (sD_rowN d 0) r, n, W, ?_, ?_, ⟨h.1, h.2.1, h.2.2.1, hw1, h.2.2.2.2.1, h.2.2.2.2.2.1, h.2.2.2.2.2.2.1, h.2.2.2.2.2.2.2.1, h.2.2.2.2.2.2.2.2.1, 0, by decide, rfl, rfl, fun i hi => absurd hi (Nat.not_lt_zero i)⟩⟩
  · rw [hw2, Option.bind_some]
    unfold f_X6_empty
    rw [Option.bind_some]
  · rw [e2, hr]
