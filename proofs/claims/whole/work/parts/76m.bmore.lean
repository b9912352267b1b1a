theorem on_M {G : Nat} (h : G ≤ 100) : f_X11_orNever (if G = 100 then -9 else nI G) = some (nI G) := by
  unfold f_X11_orNever
  by_cases g : G = 100
  · rw [if_pos g, if_neg (by decide), g]; rfl
  · rw [if_neg g, if_pos (nI_pos' (by omega))]
/-- how late he goes, having spoken to the best of the first i; and whom -/
def slT (u : VS) (n p : Nat) : Nat → Nat
  | 0 => gu u n p
  | i + 1 => if p = i then slT u n p i else if gV_here u i = 0 then slT u n p i else if gu (tlk u p i) n p ≤ slT u n p i then slT u n p i else gu (tlk u p i) n p
def swT (u : VS) (n p : Nat) : Nat → Int32
  | 0 => -9
  | i + 1 => if p = i then swT u n p i else if gV_here u i = 0 then swT u n p i else if gu (tlk u p i) n p ≤ slT u n p i then swT u n p i else nI i
theorem slT_le (u : VS) (n p : Nat) : ∀ i, slT u n p i ≤ 100 := by
  intro i
  induction i with
  | zero => exact gu_le u n p
  | succ i ih =>
    simp only [slT]
    split
    · exact ih
    · split
      · exact ih
      · split
        · exact ih
        · exact gu_le _ n p
theorem uf_X {u : MS} {n W p : Nat} (hI : IV n W (gM_now u)) (hW : W < 2 ^ 20) (ht : AnyV (gM_then u)) (hp : p < 8) : f_X3_untilForgotten u (nI p) = some (nI (gu (gM_now u) n p), sM_then u (wks (gM_now u) n (gu (gM_now u) n p))) := by
  unfold f_X3_untilForgotten
  have e5 : f_X8_passUntilForgotten (gM_then (sM_then u (gM_now u))) (nI p) = some (nI (gu (gM_now u) n p), wks (gM_now u) n (gu (gM_now u) n p)) := pu_X hI hW hp
  rw [sa_X hI ht, Option.bind_some, e5, Option.bind_some]
theorem sk_X {u : MS} {n W p : Nat} (hI : IV n W (gM_now u)) (hW : W < 2 ^ 20) (ht : AnyV (gM_then u)) (hp : p < n) (h1 : ¬ gV_here (gM_now u) p = 0) : ∃ w, AnyV w ∧ f_X3_bestToSpeakTo u (nI p) = some (swT (gM_now u) n p n, sM_then u w) := by
  have hn := hI.n8
  unfold f_X3_bestToSpeakTo f_X3_bestToSpeakTo_12
  rw [uf_X hI hW ht (by omega), Option.bind_some]
  refine lq4_inv (fun i a b c e => (∃ w, AnyV w ∧ a = sM_then u w) ∧ b = swT (gM_now u) n p i ∧ c = nI (slT (gM_now u) n p i) ∧ e = nI i) (fun o => ∃ w, AnyV w ∧ o = some (swT (gM_now u) n p n, sM_then u w)) n ?_ smN _ _ _ _ (smN_gt (by omega)) ⟨⟨_, (IV_wks hI _).any, rfl⟩, rfl, rfl, rfl⟩
  rintro i a b c e hi ⟨⟨w, hw, rfl⟩, rfl, rfl, rfl⟩
  have hsl := slT_le (gM_now u) n p i
  unfold b_X3_bestToSpeakTo_12
  have e1 : gV_people (gM_now (sM_then u w)) = nI n := hI.pe
  rw [e1]
  rcases Nat.lt_or_ge i n with h | h
  · left
    have hi8 : i < 8 := by omega
    have e2 : f_X8_areTwoHere (gM_now (sM_then u w)) (nI p) (nI i) = some (if p = i then 0 else if gV_here (gM_now u) i = 0 then 0 else 1) := ath_X hI hp h h1
    rw [e2]
    by_cases g1 : p = i
    · refine ⟨sM_then u w, swT (gM_now u) n p (i + 1), nI (slT (gM_now u) n p (i + 1)), nI (i + 1), h, ⟨⟨w, hw, rfl⟩, rfl, rfl, rfl⟩, fun k => ?_⟩
      simp (disch := omega) only [ile, i1]
      rw [if_neg (by omega), if_pos g1, Option.bind_some, if_pos rfl]
      simp only [swT, slT, if_pos g1]
    · by_cases g2 : gV_here (gM_now u) i = 0
      · refine ⟨sM_then u w, swT (gM_now u) n p (i + 1), nI (slT (gM_now u) n p (i + 1)), nI (i + 1), h, ⟨⟨w, hw, rfl⟩, rfl, rfl, rfl⟩, fun k => ?_⟩
        simp (disch := omega) only [ile, i1]
        rw [if_neg (by omega), if_neg g1, if_pos g2, Option.bind_some, if_pos rfl]
        simp only [swT, slT, if_neg g1, if_pos g2]
      · have hI2 := IV_tlk hI (show p < 8 by omega) hi8
        have hgl := gu_le (tlk (gM_now u) p i) n p
        have e3 : f_X3_startAgain (sM_then u w) = some (sM_then u (gM_now u)) := sa_X (u := sM_then u w) hI hw
        have e4 : f_X8_talk (gM_then (sM_then u (gM_now u))) (nI p) (nI i) = some (tlk (gM_now u) p i) := tlk_X _ (by omega) hi8
        have e5 : f_X8_passUntilForgotten (gM_then (sM_then (sM_then u (gM_now u)) (tlk (gM_now u) p i))) (nI p) = some (nI (gu (tlk (gM_now u) p i) n p), wks (tlk (gM_now u) p i) n (gu (tlk (gM_now u) p i) n p)) := pu_X hI2 hW (by omega)
        refine ⟨sM_then u (wks (tlk (gM_now u) p i) n (gu (tlk (gM_now u) p i) n p)), swT (gM_now u) n p (i + 1), nI (slT (gM_now u) n p (i + 1)), nI (i + 1), h, ⟨⟨_, (IV_wks hI2 _).any, rfl⟩, rfl, rfl, rfl⟩, fun k => ?_⟩
        simp (disch := omega) only [ile, i1]
        rw [if_neg (by omega), if_neg g1, if_neg g2, Option.bind_some, if_neg (by decide), e3, Option.bind_some, e4, Option.bind_some, e5, Option.bind_some]
        simp (disch := omega) only [ile]
        simp only [swT, slT, if_neg g1, if_neg g2]
        split <;> rfl
  · right
    obtain rfl : i = n := by omega
    refine ⟨_, ⟨w, hw, rfl⟩, fun k => ?_⟩
    simp (disch := omega) only [ile]
    rw [if_pos (Nat.le_refl _)]
theorem sk_M {d : DS} {u : VS} {n W p : Nat} (hI : IV n W u) (hR : RV u (gD_s d)) (hp : p < n) : ∃ r, f_X11_speak_32 (nI p) smN d (-9) (nI (gu u n p)) 0 = some (swT u n p n, sD_m d r) := by
  have hn := hI.n8
  unfold f_X11_speak_32
  refine lq4_inv (fun i a b c e => (∃ r, a = sD_m d r) ∧ b = swT u n p i ∧ c = nI (slT u n p i) ∧ e = nI i) (fun o => ∃ r, o = some (swT u n p n, sD_m d r)) n ?_ smN _ _ _ _ (smN_gt (by omega)) ⟨⟨gD_m d, rfl⟩, rfl, rfl, rfl⟩
  rintro i a b c e hi ⟨⟨r, rfl⟩, rfl, rfl, rfl⟩
  have hsl := slT_le u n p i
  have hp8 : p < 8 := by omega
  unfold b_X11_speak_32
  have e1 : gD_s (sD_m d r) 0 = nI n := hR.pe.trans hI.pe
  simp only [ck0, cl0, e1]
  rcases Nat.lt_or_ge i n with h | h
  · left
    have hi8 : i < 8 := by omega
    have e2 : f_X11_isHere (gD_s (sD_m d r)) (nI i) = some (gV_here u i) := here_M hI hR hi8
    rw [e2]
    by_cases g1 : p = i
    · refine ⟨sD_m d r, swT u n p (i + 1), nI (slT u n p (i + 1)), nI (i + 1), h, ⟨⟨r, rfl⟩, rfl, rfl, rfl⟩, fun k => ?_⟩
      simp (disch := omega) only [ile, ieq, i1]
      rw [if_neg (by omega), if_pos g1.symm]
      simp only [swT, slT, if_pos g1]
    · by_cases g2 : gV_here u i = 0
      · refine ⟨sD_m d r, swT u n p (i + 1), nI (slT u n p (i + 1)), nI (i + 1), h, ⟨⟨r, rfl⟩, rfl, rfl, rfl⟩, fun k => ?_⟩
        simp (disch := omega) only [ile, ieq, i1, Option.bind_some]
        rw [if_neg (by omega), if_neg (fun q => g1 q.symm), if_pos g2]
        simp only [swT, slT, if_neg g1, if_pos g2]
      · have hI2 := IV_tlk hI hp8 hi8
        have hgl := gu_le (tlk u p i) n p
        obtain ⟨r2, k1, k2⟩ := tlk_M (RV_cp r hR) hp8 hi8
        obtain ⟨r3, k3, k4⟩ := gi_M hI2 hp8 (sD_m d r2) k1
        have e3 : f_X11_copies (gD_s (sD_m d r), gD_m (sD_m d r)) = some (gD_s d, cpT (gD_s d) r 99) := copies_M _ _
        have e4 : f_X11_speaksIn (gD_m (sD_m (sD_s (sD_m d r) (gD_s d, cpT (gD_s d) r 99).1) (gD_s d, cpT (gD_s d) r 99).2)) (nI p) (nI i) = some r2 := k2
        have e5 : f_X11_goesIn (sD_m (sD_m (sD_s (sD_m d r) (gD_s d, cpT (gD_s d) r 99).1) (gD_s d, cpT (gD_s d) r 99).2) r2) (nI p) = some (if gu (tlk u p i) n p = 100 then -9 else nI (gu (tlk u p i) n p), sD_m d r3) := k4
        have e6 : f_X11_orNever (if gu (tlk u p i) n p = 100 then -9 else nI (gu (tlk u p i) n p), sD_m d r3).1 = some (nI (gu (tlk u p i) n p)) := on_M hgl
        refine ⟨sD_m d r3, swT u n p (i + 1), nI (slT u n p (i + 1)), nI (i + 1), h, ⟨⟨r3, rfl⟩, rfl, rfl, rfl⟩, fun k => ?_⟩
        simp (disch := omega) only [ile, ieq, i1, Option.bind_some]
        rw [if_neg (by omega), if_neg (fun q => g1 q.symm), if_neg g2, e3, Option.bind_some, e4, Option.bind_some, e5, Option.bind_some, e6, Option.bind_some]
        simp (disch := omega) only [ilt]
        simp only [swT, slT, if_neg g1, if_neg g2]
        by_cases g3 : gu (tlk u p i) n p ≤ slT u n p i
        · rw [if_pos g3, if_pos g3, if_neg (by omega)]
        · rw [if_neg g3, if_neg g3, if_pos (by omega)]
  · right
    obtain rfl : i = n := by omega
    refine ⟨_, ⟨r, rfl⟩, fun k => ?_⟩
    simp (disch := omega) only [ile]
    rw [if_pos (Nat.le_refl _)]
theorem m_speak {n W : Nat} {x : XS} {d : DS} (h : XR n W x d) (a : Int32) : OKi (f_X10_speak x a) (f_X11_speak d a) := by
  have hw := h.w
  have hn := h.iv.n8
  unfold f_X10_speak f_X11_speak
  rcases won h a with ⟨p, hp, rfl, g, e1, e2, e3⟩ | ⟨c, hc, e3, c1, c2, e1, e2, e4⟩
  · obtain ⟨w, hw1, hw2⟩ := sk_X h.iv (by omega) h.th hp g
    have hR9 : RV (xNow x) (gD_m (sD_m (sD_s d (gD_s d, cpT (gD_s d) (gD_m d) 99).1) (gD_s d, cpT (gD_s d) (gD_m d) 99).2)) := RV_cp (gD_m d) h.rv
    obtain ⟨r, g1, g2⟩ := gi_M h.iv (show p < 8 by omega) _ hR9
    have e5 : f_X11_goesOf d (nI p) = some (if gu (xNow x) n p = 100 then -9 else nI (gu (xNow x) n p), sD_m d r) := by
      unfold f_X11_goesOf
      rw [copies_M, Option.bind_some, g2, Option.bind_some]
    have e6 : f_X11_orNever (if gu (xNow x) n p = 100 then -9 else nI (gu (xNow x) n p), sD_m d r).1 = some (nI (gu (xNow x) n p)) := on_M (gu_le _ _ _)
    obtain ⟨r2, hr2⟩ := sk_M (d := sD_m d r) h.iv h.rv hp
    refine ⟨swT (xNow x) n p n, sX_mind x (sM_then (gX_mind x) w), sD_m d r2, n, W, ?_, ?_, XR_then h hw1 r2⟩
    · rw [e1, e2, Option.bind_some, Option.bind_some, ref2, if_pos rfl, cnt_0, Option.bind_some, if_pos rfl, hw2, Option.bind_some]
    · rw [e3, Option.bind_some, if_pos rfl, e5, Option.bind_some, e6, Option.bind_some, hr2]
  · refine OK_ref h hc ?_ ?_
    · rw [e1, e2, Option.bind_some, Option.bind_some, ref2, e4, cnt_c hc, Option.bind_some, if_neg hc.ne]
    · rw [e3, Option.bind_some, if_neg hc.ne, no_M hc, Option.bind_some]
