/-! what one is, by how he was known -/
abbrev Fit (w : VS) (n q p : Nat) (row : Nat → Int32) (L : Nat) : Prop := ∀ j, j < L → gV_mem (wks w n j) (8 * q + p) = row j
def wF (u : VS) (p k c : Nat) : VS := if k = 0 then sV_kind u (upd (gV_kind u) p (nI c)) else sV_fig u (upd (gV_fig u) p (nI c))
def btT (u : VS) (n q p : Nat) (row : Nat → Int32) (L k : Nat) : Nat → Int32
  | 0 => 0
  | c + 1 => if Fit (wF u p k c) n q p row L then btT u n q p row L k c ||| ((1 : Int32) <<< (nI c &&& 31)) else btT u n q p row L k c
theorem IV_wF {n W : Nat} {u : VS} (h : IV n W u) {p k c : Nat} (hp : p < 8) (hc : if k = 0 then c < 6 else c < 10) : IV n W (wF u p k c) := by
  unfold wF
  by_cases g : k = 0
  · rw [if_pos g] at hc ⊢
    exact IV_kind h hp ⟨c, hc, rfl⟩
  · rw [if_neg g] at hc ⊢
    exact IV_fig h hp ⟨c, hc, rfl⟩
theorem mt_X {u : MS} {n W p q L : Nat} {w : VS} {row : Nat → Int32} (hI : IV n W w) (hW : W < 2 ^ 20) (hw : gM_then u = w) (hp : p < 8) (hq : q < 8) (hL : L ≤ 16) (hs : gR_size (gM_row u) = nI L) (hr : ∀ j, j < L → gR_num (gM_row u) j = row j) : ∃ v w', AnyV w' ∧ f_X3_isMemoryAsTold u (nI p) (nI q) = some (v, sM_then u w') ∧ Vl v (Fit w n q p row L) := by
  unfold f_X3_isMemoryAsTold f_X3_isMemoryAsTold_3
  refine lq2_inv (fun i a b => a = sM_then u (wks w n i) ∧ b = nI i ∧ Fit w n q p row i) (fun o => ∃ v w', AnyV w' ∧ o = some (v, sM_then u w') ∧ Vl v (Fit w n q p row L)) L ?_ smN _ _ (smN_gt (by omega)) ⟨by rw [show wks w n 0 = w from rfl, ← hw]; (try rfl), rfl, fun j h => by omega⟩
  rintro i a b hi ⟨rfl, rfl, hF⟩
  unfold b_X3_isMemoryAsTold_3
  have hIw := IV_wks hI i
  have e1 : gR_size (gM_row (sM_then u (wks w n i))) = nI L := hs
  have e2 : f_X8_memoryOf (gM_then (sM_then u (wks w n i))) (nI q) (nI p) = some (gV_mem (wks w n i) (8 * q + p)) := mo_X _ hq hp
  have e3 : f_X8_passWeek (gM_then (sM_then u (wks w n i))) = some (wks w n (i + 1)) := wk_X hIw (by omega)
  rw [e1]
  simp (disch := omega) only [ile, i1]
  rcases Nat.lt_or_ge i L with h | h
  · have e4 : gR_num (gM_row (sM_then u (wks w n i))) i = row i := hr i h
    simp (disch := omega) only [ck_ok, icl]
    rw [e4]
    by_cases g : gV_mem (wks w n i) (8 * q + p) = row i
    · left
      refine ⟨sM_then u (wks w n (i + 1)), nI (i + 1), h, ⟨rfl, rfl, fun j hj => ?_⟩, fun k => ?_⟩
      · rcases Nat.lt_or_ge j i with k | k
        · exact hF j k
        · rw [show j = i by omega]; exact g
      · rw [if_neg (by omega), e2, Option.bind_some, if_pos g, e3, Option.bind_some]
        try rfl
    · right
      refine ⟨_, ⟨0, wks w n i, hIw.any, rfl, Or.inr ⟨rfl, fun k => g (k i h)⟩⟩, fun k => ?_⟩
      rw [if_neg (by omega), e2, Option.bind_some, if_neg g]
  · right
    obtain rfl : i = L := by omega
    refine ⟨_, ⟨1, wks w n i, hIw.any, rfl, Or.inl ⟨rfl, hF⟩⟩, fun k => ?_⟩
    rw [if_pos (Nat.le_refl _)]
theorem kf_X {u : MS} {n W p q L : Nat} {row : Nat → Int32} (hI : IV n W (gM_now u)) (hW : W < 2 ^ 20) (ht : AnyV (gM_then u)) (hp : p < 8) (hq : q < 8) (hL : L ≤ 16) (hs : gR_size (gM_row u) = nI L) (hr : ∀ j, j < L → gR_num (gM_row u) j = row j) : ∃ w, AnyV w ∧ f_X3_kindsThatFit u (nI p) (nI q) = some (btT (gM_now u) n q p row L 0 6, sM_then u w) := by
  unfold f_X3_kindsThatFit f_X3_kindsThatFit_6
  refine lq3_inv (fun i a b c => (∃ w, AnyV w ∧ a = sM_then u w) ∧ b = btT (gM_now u) n q p row L 0 i ∧ c = nI i) (fun o => ∃ w, AnyV w ∧ o = some (btT (gM_now u) n q p row L 0 6, sM_then u w)) 6 ?_ smN _ _ _ (smN_gt (by omega)) ⟨⟨gM_then u, ht, rfl⟩, rfl, rfl⟩
  rintro i a b c hi ⟨⟨w, hw, rfl⟩, rfl, rfl⟩
  unfold b_X3_kindsThatFit_6
  simp (disch := omega) only [show (6 : Int32) = nI 6 from rfl, ile, i1]
  rcases Nat.lt_or_ge i 6 with h | h
  · left
    have e1 : f_X3_startAgain (sM_then u w) = some (sM_then u (gM_now u)) := sa_X (u := sM_then u w) hI hw
    obtain ⟨v, w2, q1, q2, q3⟩ := mt_X (u := sM_then u (wF (gM_now u) p 0 i)) (n := n) (W := W) (p := p) (q := q) (L := L) (w := wF (gM_now u) p 0 i) (row := row) (IV_wF hI hp (by rw [if_pos rfl]; exact h)) hW rfl hp hq hL hs hr
    have q2 : f_X3_isMemoryAsTold (sM_then (sM_then u (gM_now u)) (sV_kind (gM_then (sM_then u (gM_now u))) (upd (gV_kind (gM_then (sM_then u (gM_now u)))) p (nI i)))) (nI p) (nI q) = some (v, sM_then u w2) := q2
    refine ⟨sM_then u w2, btT (gM_now u) n q p row L 0 (i + 1), nI (i + 1), h, ⟨⟨w2, q1, rfl⟩, rfl, rfl⟩, fun k => ?_⟩
    rw [if_neg (by omega), e1, Option.bind_some, ck_ok (by omega) (by decide), icl (by omega), q2, Option.bind_some]
    simp only [btT, Int32.or_zero]
    rcases q3 with ⟨rfl, q3⟩ | ⟨rfl, q3⟩
    · rw [if_neg (by decide), if_pos q3]
    · rw [if_pos rfl, if_neg q3]
  · right
    obtain rfl : i = 6 := by omega
    refine ⟨_, ⟨w, hw, rfl⟩, fun k => ?_⟩
    rw [if_pos (Nat.le_refl _)]
theorem ff2_X {u : MS} {n W p q L : Nat} {row : Nat → Int32} (hI : IV n W (gM_now u)) (hW : W < 2 ^ 20) (ht : AnyV (gM_then u)) (hp : p < 8) (hq : q < 8) (hL : L ≤ 16) (hs : gR_size (gM_row u) = nI L) (hr : ∀ j, j < L → gR_num (gM_row u) j = row j) : ∃ w, AnyV w ∧ f_X3_figuresThatFit u (nI p) (nI q) = some (btT (gM_now u) n q p row L 1 10, sM_then u w) := by
  unfold f_X3_figuresThatFit f_X3_figuresThatFit_6
  refine lq3_inv (fun i a b c => (∃ w, AnyV w ∧ a = sM_then u w) ∧ b = btT (gM_now u) n q p row L 1 i ∧ c = nI i) (fun o => ∃ w, AnyV w ∧ o = some (btT (gM_now u) n q p row L 1 10, sM_then u w)) 10 ?_ smN _ _ _ (smN_gt (by omega)) ⟨⟨gM_then u, ht, rfl⟩, rfl, rfl⟩
  rintro i a b c hi ⟨⟨w, hw, rfl⟩, rfl, rfl⟩
  unfold b_X3_figuresThatFit_6
  simp (disch := omega) only [show (9 : Int32) = nI 9 from rfl, ilt, i1]
  rcases Nat.lt_or_ge i 10 with h | h
  · left
    have e1 : f_X3_startAgain (sM_then u w) = some (sM_then u (gM_now u)) := sa_X (u := sM_then u w) hI hw
    obtain ⟨v, w2, q1, q2, q3⟩ := mt_X (u := sM_then u (wF (gM_now u) p 1 i)) (n := n) (W := W) (p := p) (q := q) (L := L) (w := wF (gM_now u) p 1 i) (row := row) (IV_wF hI hp (by rw [if_neg (by decide)]; exact h)) hW rfl hp hq hL hs hr
    have q2 : f_X3_isMemoryAsTold (sM_then (sM_then u (gM_now u)) (sV_fig (gM_then (sM_then u (gM_now u))) (upd (gV_fig (gM_then (sM_then u (gM_now u)))) p (nI i)))) (nI p) (nI q) = some (v, sM_then u w2) := q2
    refine ⟨sM_then u w2, btT (gM_now u) n q p row L 1 (i + 1), nI (i + 1), h, ⟨⟨w2, q1, rfl⟩, rfl, rfl⟩, fun k => ?_⟩
    rw [if_neg (by omega), e1, Option.bind_some, ck_ok (by omega) (by decide), icl (by omega), q2, Option.bind_some]
    simp only [btT, Int32.or_zero]
    rcases q3 with ⟨rfl, q3⟩ | ⟨rfl, q3⟩
    · rw [if_neg (by decide), if_pos q3]
    · rw [if_pos rfl, if_neg q3]
  · right
    obtain rfl : i = 10 := by omega
    refine ⟨_, ⟨w, hw, rfl⟩, fun k => ?_⟩
    rw [if_pos (by decide)]
theorem w82_M {d : DS} {n W p q L : Nat} {w : VS} {row : Nat → Int32} {v3 x4 : Int32} {c : Nat} (hI : IV n W w) (hR : RV w (gD_m d)) (hp : p < 8) (hq : q < 8) (hL : L ≤ 16) (hs : gD_rowN d = nI L) (hr : ∀ j, j < L → gD_row d j = row j) (k37 : DS → Int32 → Int32 → Option (Int32 × DS)) : ∃ r, f_X11_whatIs_82 (nI p) (nI q) v3 k37 smN d x4 (nI c) 1 0 = k37 (sD_m d r) (if Fit w n q p row L then x4 ||| ((1 : Int32) <<< (nI c &&& 31)) else x4) (nI (c + 1)) := by
  unfold f_X11_whatIs_82
  refine lq5_inw (fun i a b e f g => (∃ r, RV (wks w n i) r ∧ a = sD_m d r) ∧ b = x4 ∧ e = nI c ∧ Vl f (Fit w n q p row i) ∧ g = nI i) (fun o => ∃ r, o = k37 (sD_m d r) (if Fit w n q p row L then x4 ||| ((1 : Int32) <<< (nI c &&& 31)) else x4) (nI (c + 1))) L ?_ smN _ _ _ _ _ (smN_gt (by omega)) ⟨⟨gD_m d, hR, rfl⟩, rfl, rfl, Or.inl ⟨rfl, fun j h => by omega⟩, rfl⟩
  rintro i a b e f g kk hi ⟨⟨r, h1, rfl⟩, rfl, rfl, hV, rfl⟩
  unfold b_X11_whatIs_82
  have e1 : gD_rowN (sD_m d r) = nI L := hs
  rw [e1]
  simp (disch := omega) only [ile, i1, Int32.or_zero]
  rcases Nat.lt_or_ge i L with h | h
  · left
    have e2 : gD_row (sD_m d r) i = row i := hr i h
    have e3 : gD_m (sD_m d r) (35 + 8 * q + p) = gV_mem (wks w n i) (8 * q + p) := h1.me hq hp
    obtain ⟨r', g1, g2⟩ := wk_M (IV_wks hI i) h1
    have e4 : f_X11_week (gD_m (sD_m d r)) = some r' := g2
    rw [if_neg (by omega), f_by, Option.bind_some]
    simp (disch := omega) only [ck_ok, icl]
    rw [e2, e3]
    unfold f_X11_whatIs_118
    rw [e4, Option.bind_some, Option.bind_some, i1]
    by_cases q0 : gV_mem (wks w n i) (8 * q + p) = row i
    · rw [if_pos q0]
      refine ⟨_, _, _, _, _, h, ⟨⟨r', g1, rfl⟩, rfl, rfl, ?_, rfl⟩, rfl⟩
      rcases hV with ⟨rfl, hV⟩ | ⟨rfl, hV⟩
      · refine Or.inl ⟨rfl, fun j hj => ?_⟩
        rcases Nat.lt_or_ge j i with k | k
        · exact hV j k
        · rw [show j = i by omega]; exact q0
      · exact Or.inr ⟨rfl, fun k => hV (fun j hj => k j (by omega))⟩
    · rw [if_neg q0]
      refine ⟨_, _, _, _, _, h, ⟨⟨r', g1, rfl⟩, rfl, rfl, ?_, rfl⟩, rfl⟩
      rcases hV with ⟨rfl, hV⟩ | ⟨rfl, hV⟩
      · exact Or.inr ⟨rfl, fun k => q0 (k i (by omega))⟩
      · exact Or.inr ⟨rfl, fun k => q0 (k i (by omega))⟩
  · right
    obtain rfl : i = L := by omega
    refine ⟨r, ?_⟩
    rw [if_pos (Nat.le_refl _)]
    rcases hV with ⟨rfl, hV⟩ | ⟨rfl, hV⟩
    · rw [if_neg (by decide), if_pos hV]
    · rw [if_pos rfl, if_neg hV]
theorem wi_M {d : DS} {u : VS} {n W p q L k : Nat} {row : Nat → Int32} (hI : IV n W u) (hR : RV u (gD_s d)) (hp : p < 8) (hq : q < 8) (hk : k ≤ 1) (hL : L ≤ 16) (hs : gD_rowN d = nI L) (hr : ∀ j, j < L → gD_row d j = row j) : ∃ r, f_X11_whatIs_37 (nI p) (nI q) (nI k) smN d 0 0 = some (btT u n q p row L k (if k = 0 then 6 else 10), sD_m d r) := by
  have hN9 : (k = 0 ∧ (if k = 0 then 6 else 10) = 6) ∨ (k = 1 ∧ (if k = 0 then 6 else 10) = 10) := by
    rcases (show k = 0 ∨ k = 1 by omega) with rfl | rfl
    · exact Or.inl ⟨rfl, rfl⟩
    · exact Or.inr ⟨rfl, rfl⟩
  have hN8 : (if nI k = 0 then (6 : Int32) else (10 : Int32)) = nI (if k = 0 then 6 else 10) := by
    rcases (show k = 0 ∨ k = 1 by omega) with rfl | rfl <;> rfl
  generalize (if k = 0 then 6 else 10) = N at hN9 hN8 ⊢
  unfold f_X11_whatIs_37
  refine lq3_inw (fun i a b c => (∃ r, a = sD_m d r) ∧ b = btT u n q p row L k i ∧ c = nI i) (fun o => ∃ r, o = some (btT u n q p row L k N, sD_m d r)) N ?_ smN _ _ _ (smN_gt (by omega)) ⟨⟨gD_m d, rfl⟩, rfl, rfl⟩
  rintro i a b c kk hi ⟨⟨r, rfl⟩, rfl, rfl⟩
  have e0 : b_X11_whatIs_37 (nI p) (nI q) (nI k) kk (sD_m d r) (btT u n q p row L k i) (nI i) = f_X11_whatIs_50 (nI p) (nI q) (nI k) kk (sD_m d r) (btT u n q p row L k i) (nI i) (nI N) (nI i) := by
    rw [← hN8]
    unfold b_X11_whatIs_37
    split <;> rfl
  rw [e0]
  unfold f_X11_whatIs_50
  simp (disch := omega) only [ile]
  rcases Nat.lt_or_ge i N with h | h
  · left
    have hIF : IV n W (wF u p k i) := IV_wF hI hp (by rcases hN9 with ⟨e1, e2⟩ | ⟨e1, e2⟩ <;> rw [e1] <;> simp <;> omega)
    rw [if_neg (by omega), copies_M, Option.bind_some, f_of, Option.bind_some, ck_ok (by omega) (by decide), icl (by omega)]
    have hRF : RV (wF u p k i) (upd (cpT (gD_s d) r 99) (3 + 4 * p + k) (nI i)) := by
      unfold wF
      rcases (show k = 0 ∨ k = 1 by omega) with rfl | rfl
      · rw [if_pos rfl]; exact RV_kind (RV_cp r hR) hp _
      · rw [if_neg (by decide)]; exact RV_fig (RV_cp r hR) hp _
    obtain ⟨r2, e⟩ := w82_M (d := sD_m d (upd (cpT (gD_s d) r 99) (3 + 4 * p + k) (nI i))) (v3 := nI k) (x4 := btT u n q p row L k i) (c := i) hIF hRF hp hq hL hs hr kk
    refine ⟨_, _, _, h, ⟨⟨r2, rfl⟩, ?_, rfl⟩, e⟩
    simp only [btT]
  · right
    have e1 : i = N := by omega
    refine ⟨r, ?_⟩
    rw [if_pos h, ← e1]
theorem m_whatIs {n W : Nat} {x : XS} {d : DS} (h : XR n W x d) (a b v : Int32) : OKi (f_X10_whatIs x a b v) (f_X11_whatIs d a b v) := by
  have hn := h.iv.n8
  have hw := h.w
  unfold f_X10_whatIs f_X11_whatIs
  rcases ntwo h a b with ⟨p, q, hp, hq, hpq, rfl, rfl, e1, e2⟩ | ⟨e1, e2⟩
  · rw [e1, e2, Option.bind_some, Option.bind_some, if_neg (show ¬ (1 : Int32) = 0 by decide)]
    rcases wwh v (hi := 1) (by decide) with ⟨k, hk, rfl, e3, e4⟩ | ⟨e3, e4, -⟩
    · have e3 : f_X10_wrongWhat (nI k) (1 : Int32) = some 0 := e3
      have e4 : f_X11_isIn (nI k) (0 : Int32) (1 : Int32) = some 1 := e4
      rw [e3, e4, Option.bind_some, Option.bind_some, if_neg (show ¬ (1 : Int32) = 0 by decide), ref2, if_pos rfl, cnt_0, Option.bind_some, if_pos rfl]
      obtain ⟨L, hL, s1, s2, s3⟩ := h.2.2.2.2.2.2.2.2.2
      obtain ⟨r, e5⟩ := wi_M (k := k) h.iv h.rv (show p < 8 by omega) (show q < 8 by omega) hk hL s2 (fun j _ => rfl)
      rcases (show k = 0 ∨ k = 1 by omega) with rfl | rfl
      · obtain ⟨w, hwv, e6⟩ := kf_X (p := p) (q := q) h.iv (by omega) h.th (by omega) (by omega) hL s1 (fun j hj => (s3 j hj).1)
        refine ⟨btT (xNow x) n q p (gD_row d) L 0 6, _, sD_m d r, n, W, ?_, e5, XR_then h hwv r⟩
        rw [if_pos (show nI 0 = 0 from rfl)]
        have e6 : f_X3_kindsThatFit (gX_mind (((0 : Int32), x)).2) (nI p) (nI q) = some (btT (xNow x) n q p (gD_row d) L 0 6, sM_then (gX_mind x) w) := e6
        rw [e6, Option.bind_some]
      · obtain ⟨w, hwv, e6⟩ := ff2_X (p := p) (q := q) h.iv (by omega) h.th (by omega) (by omega) hL s1 (fun j hj => (s3 j hj).1)
        refine ⟨btT (xNow x) n q p (gD_row d) L 1 10, _, sD_m d r, n, W, ?_, e5, XR_then h hwv r⟩
        rw [if_neg (show ¬ nI 1 = 0 by decide)]
        have e6 : f_X3_figuresThatFit (gX_mind (((0 : Int32), x)).2) (nI p) (nI q) = some (btT (xNow x) n q p (gD_row d) L 1 10, sM_then (gX_mind x) w) := e6
        rw [e6, Option.bind_some]
    · have e3 : f_X10_wrongWhat v (1 : Int32) = some (-2) := e3
      have e4 : f_X11_isIn v (0 : Int32) (1 : Int32) = some 0 := e4
      rw [e3, e4, Option.bind_some, Option.bind_some, if_pos rfl]
      refine OK_ref h rc2 ?_ ?_
      · rw [ref2, if_pos rfl, cnt_c rc2, Option.bind_some, if_neg rc2.ne]
      · rw [no_M rc2, Option.bind_some]
  · rw [e1, e2, Option.bind_some, Option.bind_some, if_pos rfl]
    obtain ⟨c9, e9⟩ : ∃ c, f_X10_wrongWhat v (1 : Int32) = some c := by
      rcases wwh v (hi := 1) (by decide) with ⟨k, hk, rfl, e3, e4⟩ | ⟨e3, e4, -⟩
      · exact ⟨_, e3⟩
      · exact ⟨_, e3⟩
    rw [e9, Option.bind_some]
    refine OK_ref h rc1 ?_ ?_
    · rw [ref2, if_neg (by decide), cnt_c rc1, Option.bind_some, if_neg rc1.ne]
    · rw [no_M rc1, Option.bind_some]
