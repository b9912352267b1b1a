/-- behind how many weeks nobody is here, of at most m more -/
def gmT (u : VS) (n : Nat) : Nat → Nat → Nat
  | 0, i => i
  | m + 1, i => if hbN (wks u n i) n = 0 then i else gmT u n m (i + 1)
theorem gmT_le (u : VS) (n m : Nat) : ∀ i, gmT u n m i ≤ i + m := by
  induction m with
  | zero => intro i; exact Nat.le_refl _
  | succ m ih =>
    intro i
    simp only [gmT]
    split
    · omega
    · have := ih (i + 1); omega
def gm (u : VS) (n : Nat) : Nat := gmT u n 100 0
theorem ue_X {u : MS} {n W : Nat} (hI : IV n W (gM_now u)) (hW : W < 2 ^ 20) (ht : AnyV (gM_then u)) : ∃ w, AnyV w ∧ f_X3_untilEmpty u = some (nI (gm (gM_now u) n), sM_then u w) := by
  have hn := hI.n8
  have hG9 : gmT (gM_now u) n (100 - 0) 0 = gm (gM_now u) n := by unfold gm; rw [Nat.sub_zero]
  generalize gm (gM_now u) n = G at hG9 ⊢
  unfold f_X3_untilEmpty f_X3_untilEmpty_6
  rw [sa_X hI ht, Option.bind_some]
  refine lq2_inv (fun i a b => a = sM_then u (wks (gM_now u) n i) ∧ b = nI i ∧ gmT (gM_now u) n (100 - i) i = G) (fun o => ∃ w, AnyV w ∧ o = some (nI G, sM_then u w)) 100 ?_ smN _ _ (smN_gt (by omega)) ⟨rfl, rfl, hG9⟩
  rintro i a b hi ⟨rfl, rfl, hg⟩
  unfold b_X3_untilEmpty_6
  have hIw := IV_wks hI i
  have hh2 := hbN_256 (wks (gM_now u) n i) hn
  have e2 : f_X8_hereBits (gM_then (sM_then u (wks (gM_now u) n i))) = some (nI (hbN (wks (gM_now u) n i) n)) := hb_X hIw
  rcases Nat.lt_or_ge i 100 with h | h
  · rw [show 100 - i = (99 - i) + 1 by omega] at hg
    simp only [gmT] at hg
    by_cases g : hbN (wks (gM_now u) n i) n = 0
    · right
      rw [if_pos g] at hg
      refine ⟨_, ⟨_, hIw.any, rfl⟩, fun k => ?_⟩
      rw [e2, Option.bind_some]
      simp (disch := omega) only [l99, l0, ilt, ieq]
      rw [if_neg (by omega), if_pos g, ← hg]
    · left
      rw [if_neg g] at hg
      have e1 : f_X8_passWeek (gM_then (sM_then u (wks (gM_now u) n i))) = some (wks (gM_now u) n (i + 1)) := wk_X hIw (by omega)
      refine ⟨sM_then u (wks (gM_now u) n (i + 1)), nI (i + 1), h, ⟨rfl, rfl, by rw [show 100 - (i + 1) = 99 - i by omega]; exact hg⟩, fun k => ?_⟩
      rw [e2, Option.bind_some, e1, Option.bind_some]
      simp (disch := omega) only [l99, l0, ilt, ieq, i1]
      rw [if_neg (by omega), if_neg g]
  · right
    have hi : i = 100 := by omega
    subst hi
    simp only [Nat.sub_self, gmT] at hg
    refine ⟨_, ⟨_, hIw.any, rfl⟩, fun k => ?_⟩
    rw [if_pos (by decide), ← hg]
    rfl
theorem ue_M {d : DS} {u : VS} {n W : Nat} (hI : IV n W u) (hR : RV u (gD_s d)) : ∃ r, f_X11_emptyBehind d = some (if gm u n = 100 then -9 else nI (gm u n), sD_m d r) := by
  have hn := hI.n8
  have hG9 : gmT u n (100 - 0) 0 = gm u n := by unfold gm; rw [Nat.sub_zero]
  have hGl : gm u n ≤ 100 := by have := gmT_le u n 100 0; unfold gm; omega
  generalize gm u n = G at hG9 hGl ⊢
  unfold f_X11_emptyBehind f_X11_emptyBehind_13
  rw [copies_M, Option.bind_some]
  refine lq2_inv (fun i a b => (∃ r, RV (wks u n i) r ∧ a = sD_m d r) ∧ b = nI i ∧ gmT u n (100 - i) i = G) (fun o => ∃ r, o = some (if G = 100 then -9 else nI G, sD_m d r)) 100 ?_ smN _ _ (smN_gt (by omega)) ⟨⟨_, RV_cp (gD_m d) hR, rfl⟩, rfl, hG9⟩
  rintro i a b hi ⟨⟨r, h1, rfl⟩, rfl, hg⟩
  unfold b_X11_emptyBehind_13
  have hIw := IV_wks hI i
  have hh2 := hbN_256 (wks u n i) hn
  have e2 : f_X11_hereIn (gD_m (sD_m d r)) = some (nI (hbN (wks u n i) n)) := hb_M hIw h1
  rcases Nat.lt_or_ge i 100 with h | h
  · rw [show 100 - i = (99 - i) + 1 by omega] at hg
    simp only [gmT] at hg
    by_cases g : hbN (wks u n i) n = 0
    · right
      rw [if_pos g] at hg
      refine ⟨_, ⟨r, rfl⟩, fun k => ?_⟩
      rw [e2, Option.bind_some]
      simp (disch := omega) only [l99, l0, ilt, ieq]
      rw [if_neg (by omega), if_pos g, ← hg, if_neg (by omega)]
    · left
      rw [if_neg g] at hg
      obtain ⟨r', g1, g2⟩ := wk_M hIw h1
      have e1 : f_X11_week (gD_m (sD_m d r)) = some r' := g2
      refine ⟨sD_m d r', nI (i + 1), h, ⟨⟨r', g1, rfl⟩, rfl, by rw [show 100 - (i + 1) = 99 - i by omega]; exact hg⟩, fun k => ?_⟩
      rw [e2, Option.bind_some, e1, Option.bind_some]
      simp (disch := omega) only [l99, l0, ilt, ieq, i1]
      rw [if_neg (by omega), if_neg g]
  · right
    have hi : i = 100 := by omega
    subst hi
    simp only [Nat.sub_self, gmT] at hg
    refine ⟨_, ⟨r, rfl⟩, fun k => ?_⟩
    rw [if_pos (by decide), ← hg]
    rfl
theorem m_next {n W : Nat} {x : XS} {d : DS} (h : XR n W x d) (v : Int32) : OKi (f_X10_next x v) (f_X11_next d v) := by
  have hw := h.w
  have hn := h.iv.n8
  unfold f_X10_next f_X11_next
  rcases wwh v (hi := 3) (by decide) with ⟨k, hk, hv, f1, f2⟩ | ⟨f1, f2, -⟩
  · have f1 : f_X10_wrongWhat v (3 : Int32) = some 0 := f1
    have f2 : f_X11_isIn v (0 : Int32) (3 : Int32) = some 1 := f2
    rw [f1, f2, Option.bind_some, Option.bind_some, ref1, cnt_0, Option.bind_some, if_pos rfl, if_neg (show ¬ (1 : Int32) = 0 by decide)]
    have hfl := (fl_le (xNow x) n).1
    match k, hk with
    | 0, _ =>
      subst hv
      obtain ⟨r, hr⟩ := nx_M (v := nI 0) h.iv h.rv
      have hr : f_X11_next_53 (nI 0) smN d (-9) 1000000000 0 = some (fwT (xNow x) n n 0, sD_m d r) := hr
      refine ⟨fwT (xNow x) n n 0, _, sD_m d r, n, W, ?_, ?_, XR_then h (IV_wks h.iv (if fl (xNow x) n = 100 then 99 else fl (xNow x) n)).any r⟩
      · rw [if_pos (show nI 0 = 0 from rfl), ff_X h.iv (by omega) h.th, Option.bind_some]
      · rw [if_neg (by decide), if_neg (by decide), hr]
    | 1, _ =>
      subst hv
      obtain ⟨r, hr⟩ := nx_M (v := nI 1) h.iv h.rv
      have hr : f_X11_next_53 (nI 1) smN d (-9) 1000000000 0 = some (if fl (xNow x) n = 100 then -9 else nI (fl (xNow x) n), sD_m d r) := hr
      refine ⟨if fl (xNow x) n = 100 then -9 else nI (fl (xNow x) n), _, sD_m d r, n, W, ?_, ?_, XR_then h (IV_wks h.iv (if fl (xNow x) n = 100 then 99 else fl (xNow x) n)).any r⟩
      · rw [if_neg (by decide), if_pos (show nI 1 = 1 from rfl), uff_X h.iv (by omega) h.th, Option.bind_some]
        show (f_X10_noneIfNever (nI (fl (xNow x) n))).bind _ = _
        rw [nn_X hfl, Option.bind_some]
      · rw [if_neg (by decide), if_neg (by decide), hr]
    | 2, _ =>
      subst hv
      obtain ⟨w, hw1, hw2⟩ := ue_X h.iv (by omega) h.th
      obtain ⟨r, hr⟩ := ue_M h.iv h.rv
      have hGl : gm (xNow x) n ≤ 100 := by have := gmT_le (xNow x) n 100 0; unfold gm; omega
      refine ⟨if gm (xNow x) n = 100 then -9 else nI (gm (xNow x) n), _, sD_m d r, n, W, ?_, ?_, XR_then h hw1 r⟩
      · rw [if_neg (by decide), if_neg (by decide), if_pos (show nI 2 = 2 from rfl), hw2, Option.bind_some]
        show (f_X10_noneIfNever (nI (gm (xNow x) n))).bind _ = _
        rw [nn_X hGl, Option.bind_some]
      · rw [if_pos (show nI 2 = 2 from rfl), hr, Option.bind_some]
    | 3, _ =>
      subst hv
      refine ⟨(10 : Int32) - (gV_week (xNow x) - gV_week (xNow x) / (10 : Int32) * (10 : Int32)), x, d, n, W, ?_, ?_, h⟩
      · rw [if_neg (by decide), if_neg (by decide), if_neg (by decide)]
      · rw [if_neg (by decide), if_pos (show nI 3 = 3 from rfl), ck1, cl1, h.rv.we]
  · have f1 : f_X10_wrongWhat v (3 : Int32) = some (-2) := f1
    have f2 : f_X11_isIn v (0 : Int32) (3 : Int32) = some 0 := f2
    refine OK_ref h rc2 ?_ ?_
    · rw [f1, Option.bind_some, ref1, cnt_c rc2, Option.bind_some, if_neg rc2.ne]
    · rw [f2, Option.bind_some, if_pos rfl, no_M rc2, Option.bind_some]
