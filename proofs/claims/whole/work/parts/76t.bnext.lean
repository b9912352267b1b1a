theorem uff_X {u : MS} {n W : Nat} (hI : IV n W (gM_now u)) (hW : W < 2 ^ 20) (ht : AnyV (gM_then u)) : f_X3_untilFirstForgotten u = some (nI (fl (gM_now u) n), sM_then u (wks (gM_now u) n (if fl (gM_now u) n = 100 then 99 else fl (gM_now u) n))) := by
  have hn := hI.n8
  have hf0 : flT (gM_now u) n (99 - 0) (0 + 1) = fl (gM_now u) n := rfl
  have hh := hbN_256 (gM_now u) hn
  have hfl := (fl_le (gM_now u) n).1
  unfold f_X3_untilFirstForgotten f_X3_untilFirstForgotten_14
  have e0 : f_X8_hereBits (gM_now (sM_then u (gM_now u))) = some (nI (hbN (gM_now u) n)) := hb_X hI
  rw [sa_X hI ht, Option.bind_some, e0, Option.bind_some]
  generalize fl (gM_now u) n = F at hf0 hfl ⊢
  refine lq3_inv (fun i a b c => a = sM_then u (wks (gM_now u) n i) ∧ b = nI (hbN (gM_now u) n) ∧ c = nI (i + 1) ∧ flT (gM_now u) n (99 - i) (i + 1) = F) (fun o => o = some (nI F, sM_then u (wks (gM_now u) n (if F = 100 then 99 else F)))) 99 ?_ smN _ _ _ (smN_gt (by omega)) ⟨rfl, rfl, rfl, hf0⟩
  rintro i a b c hi ⟨rfl, rfl, rfl, hg⟩
  unfold b_X3_untilFirstForgotten_14
  rcases Nat.lt_or_ge i 99 with h | h
  · rw [show 99 - i = (98 - i) + 1 by omega] at hg
    simp only [flT] at hg
    have hIw := IV_wks hI (i + 1)
    have hh2 := hbN_256 (wks (gM_now u) n (i + 1)) hn
    have e1 : f_X8_passWeek (gM_then (sM_then u (wks (gM_now u) n i))) = some (wks (gM_now u) n (i + 1)) := wk_X (IV_wks hI i) (by omega)
    have e2 : f_X8_hereBits (gM_then (sM_then (sM_then u (wks (gM_now u) n i)) (wks (gM_now u) n (i + 1)))) = some (nI (hbN (wks (gM_now u) n (i + 1)) n)) := hb_X hIw
    by_cases g : hbN (wks (gM_now u) n (i + 1)) n = hbN (gM_now u) n
    · left
      rw [if_pos g] at hg
      refine ⟨sM_then u (wks (gM_now u) n (i + 1)), nI (hbN (gM_now u) n), nI (i + 1 + 1), h, ⟨rfl, rfl, rfl, by rw [show 99 - (i + 1) = 98 - i by omega]; exact hg⟩, fun k => ?_⟩
      rw [e1, Option.bind_some, e2, Option.bind_some]
      simp (disch := omega) only [l99, ilt, ieq, i1]
      rw [if_neg (by omega), if_pos g]
    · right
      rw [if_neg g] at hg
      refine ⟨_, rfl, fun k => ?_⟩
      rw [e1, Option.bind_some, e2, Option.bind_some]
      simp (disch := omega) only [l99, ilt, ieq, i1]
      rw [if_neg (by omega), if_neg g, ← hg, if_neg (by omega)]
  · right
    have hi : i = 99 := by omega
    subst hi
    simp only [Nat.sub_self, flT] at hg
    refine ⟨_, rfl, fun k => ?_⟩
    rw [if_pos (by decide), ← hg, if_pos rfl]
    rfl
theorem ff_X {u : MS} {n W : Nat} (hI : IV n W (gM_now u)) (hW : W < 2 ^ 20) (ht : AnyV (gM_then u)) : f_X3_firstForgotten u = some (fwT (gM_now u) n n 0, sM_then u (wks (gM_now u) n (if fl (gM_now u) n = 100 then 99 else fl (gM_now u) n))) := by
  have hn := hI.n8
  unfold f_X3_firstForgotten f_X3_firstForgotten_7
  rw [uff_X hI hW ht, Option.bind_some]
  have hfl := (fl_le (gM_now u) n).1
  have key : ∀ p, p < n → ¬ gV_here (gM_now u) p = 0 → (gV_here (wks (gM_now u) n (if fl (gM_now u) n = 100 then 99 else fl (gM_now u) n)) p = 0 ↔ (gu (gM_now u) n p = fl (gM_now u) n ∧ fl (gM_now u) n < 100)) := by
    intro p hp h1
    have hlow := fl_low hp h1
    by_cases g : fl (gM_now u) n = 100
    · rw [if_pos g, gu_iff (by omega)]
      constructor
      · intro h; omega
      · intro h; omega
    · rw [if_neg g, gu_iff (by omega)]
      constructor
      · intro h; omega
      · intro h; omega
  generalize wks (gM_now u) n (if fl (gM_now u) n = 100 then 99 else fl (gM_now u) n) = w at key ⊢
  generalize hf0 : fwT (gM_now u) n n 0 = F
  refine lq2_inv (fun i a b => a = sM_then u w ∧ b = nI i ∧ fwT (gM_now u) n (n - i) i = F) (fun o => o = some (F, sM_then u w)) n ?_ smN _ _ (smN_gt (by omega)) ⟨rfl, rfl, by rw [Nat.sub_zero]; exact hf0⟩
  rintro i a b hi ⟨rfl, rfl, hg⟩
  unfold b_X3_firstForgotten_7
  have e1 : gV_people (gM_now (sM_then u w)) = nI n := hI.pe
  rw [e1]
  rcases Nat.lt_or_ge i n with h | h
  · rw [show n - i = (n - (i + 1)) + 1 by omega] at hg
    simp only [fwT] at hg
    by_cases g1 : gV_here (gM_now u) i = 0
    · left
      rw [if_pos g1] at hg
      refine ⟨sM_then u w, nI (i + 1), h, ⟨rfl, rfl, hg⟩, fun k => ?_⟩
      simp (disch := omega) only [ile, i1, ck_ok, icl]
      rw [if_neg (by omega), if_pos (show gV_here (gM_now (sM_then u w)) i = 0 from g1)]
    · rw [if_neg g1] at hg
      by_cases g2 : gV_here w i = 0
      · right
        rw [if_pos ((key i h g1).mp g2)] at hg
        refine ⟨_, rfl, fun k => ?_⟩
        simp (disch := omega) only [ile, i1, ck_ok, icl]
        rw [if_neg (by omega), if_neg (show ¬ gV_here (gM_now (sM_then u w)) i = 0 from g1), if_pos (show gV_here (gM_then (sM_then u w)) i = 0 from g2), ← hg]
      · left
        rw [if_neg (fun e => g2 ((key i h g1).mpr e))] at hg
        refine ⟨sM_then u w, nI (i + 1), h, ⟨rfl, rfl, hg⟩, fun k => ?_⟩
        simp (disch := omega) only [ile, i1, ck_ok, icl]
        rw [if_neg (by omega), if_neg (show ¬ gV_here (gM_now (sM_then u w)) i = 0 from g1), if_neg (show ¬ gV_here (gM_then (sM_then u w)) i = 0 from g2)]
  · right
    obtain rfl : i = n := by omega
    rw [Nat.sub_self] at hg
    simp only [fwT] at hg
    refine ⟨_, rfl, fun k => ?_⟩
    simp (disch := omega) only [ile]
    rw [if_pos (Nat.le_refl _), ← hg]
theorem go_M {d : DS} {u : VS} {n W p : Nat} (hI : IV n W u) (hR : RV u (gD_s d)) (hp : p < 8) : ∃ r, f_X11_goesOf d (nI p) = some (if gu u n p = 100 then -9 else nI (gu u n p), sD_m d r) := by
  have hR9 : RV u (gD_m (sD_m (sD_s d (gD_s d, cpT (gD_s d) (gD_m d) 99).1) (gD_s d, cpT (gD_s d) (gD_m d) 99).2)) := RV_cp (gD_m d) hR
  obtain ⟨r, g1, g2⟩ := gi_M hI hp _ hR9
  refine ⟨r, ?_⟩
  unfold f_X11_goesOf
  rw [copies_M, Option.bind_some, g2, Option.bind_some]
theorem fw_none {u : VS} {n : Nat} (h : fl u n = 100) : ∀ m i, fwT u n m i = -9 := by
  intro m
  induction m with
  | zero => intro i; rfl
  | succ m ih =>
    intro i
    simp only [fwT]
    rw [if_neg (show ¬ (gu u n i = fl u n ∧ fl u n < 100) by omega), ih]
    exact ite_self _
theorem fw_is {u : VS} {n q : Nat} (h1 : ¬ gV_here u q = 0) (h2 : gu u n q = fl u n ∧ fl u n < 100) : ∀ m i, i ≤ q → q < i + m → (∀ q', i ≤ q' → q' < q → ¬ gV_here u q' = 0 → ¬ gu u n q' = fl u n) → fwT u n m i = nI q := by
  intro m
  induction m with
  | zero => intro i h3 h4; omega
  | succ m ih =>
    intro i h3 h4 h5
    simp only [fwT]
    by_cases e : i = q
    · subst e
      rw [if_neg h1, if_pos h2]
    · have ih := ih (i + 1) (by omega) (by omega) (fun q' a b => h5 q' (by omega) b)
      rw [ih]
      by_cases g : gV_here u i = 0
      · rw [if_pos g]
      · rw [if_neg g, if_neg (fun k => h5 i (by omega) (by omega) g k.1)]
theorem nx_M {d : DS} {u : VS} {n W : Nat} {v : Int32} (hI : IV n W u) (hR : RV u (gD_s d)) : ∃ r, f_X11_next_53 v smN d (-9) 1000000000 0 = some (if v = 0 then fwT u n n 0 else if fl u n = 100 then -9 else nI (fl u n), sD_m d r) := by
  have hn := hI.n8
  unfold f_X11_next_53
  refine lq4_inv (fun i a b c e => (∃ r, a = sD_m d r) ∧ ((b = -9 ∧ c = 1000000000 ∧ ∀ q, q < i → ¬ gV_here u q = 0 → gu u n q = 100) ∨ (∃ q, q < i ∧ b = nI q ∧ c = nI (gu u n q) ∧ ¬ gV_here u q = 0 ∧ gu u n q < 100 ∧ ∀ q', q' < i → ¬ gV_here u q' = 0 → gu u n q ≤ gu u n q' ∧ (q' < q → gu u n q < gu u n q'))) ∧ e = nI i) (fun o => ∃ r, o = some (if v = 0 then fwT u n n 0 else if fl u n = 100 then -9 else nI (fl u n), sD_m d r)) n ?_ smN _ _ _ _ (smN_gt (by omega)) ⟨⟨gD_m d, rfl⟩, Or.inl ⟨rfl, rfl, fun q h => by omega⟩, rfl⟩
  rintro i a b c e hi ⟨⟨r, rfl⟩, hb, rfl⟩
  unfold b_X11_next_53
  have e1 : gD_s (sD_m d r) 0 = nI n := hR.pe.trans hI.pe
  simp only [ck0, cl0, e1]
  rcases Nat.lt_or_ge i n with h | h
  · left
    have hi8 : i < 8 := by omega
    have e2 : f_X11_isHere (gD_s (sD_m d r)) (nI i) = some (gV_here u i) := here_M hI hR hi8
    have hG := gu_le u n i
    rw [e2]
    by_cases g1 : gV_here u i = 0
    · refine ⟨sD_m d r, b, c, nI (i + 1), h, ⟨⟨r, rfl⟩, ?_, rfl⟩, fun k => ?_⟩
      · have ne : ∀ q, q < i + 1 → ¬ gV_here u q = 0 → q < i := by
          intro q h1 h2
          rcases Nat.lt_or_ge q i with k | k
          · exact k
          · rw [show q = i by omega] at h2; exact absurd g1 h2
        rcases hb with ⟨rfl, rfl, h3⟩ | ⟨q, h1, rfl, rfl, h2, h3, h4⟩
        · exact Or.inl ⟨rfl, rfl, fun q h1 h2 => h3 q (ne q h1 h2) h2⟩
        · exact Or.inr ⟨q, by omega, rfl, rfl, h2, h3, fun q' h5 h6 => h4 q' (ne q' h5 h6) h6⟩
      · simp (disch := omega) only [ile, i1, Option.bind_some]
        rw [if_neg (by omega), if_pos g1]
        unfold f_X11_next_87
        rw [if_pos (by decide), i1]
    · obtain ⟨r2, e3⟩ := go_M (d := sD_m d r) hI hR hi8
      by_cases g2 : gu u n i = 100
      · rw [if_pos g2] at e3
        refine ⟨sD_m d r2, b, c, nI (i + 1), h, ⟨⟨r2, rfl⟩, ?_, rfl⟩, fun k => ?_⟩
        · rcases hb with ⟨rfl, rfl, h3⟩ | ⟨q, h1, rfl, rfl, h2, h3, h4⟩
          · refine Or.inl ⟨rfl, rfl, fun q h1 h2 => ?_⟩
            rcases Nat.lt_or_ge q i with k | k
            · exact h3 q k h2
            · rw [show q = i by omega]; exact g2
          · refine Or.inr ⟨q, by omega, rfl, rfl, h2, h3, fun q' h5 h6 => ?_⟩
            rcases Nat.lt_or_ge q' i with k | k
            · exact h4 q' k h6
            · rw [show q' = i by omega]; omega
        · simp (disch := omega) only [ile, i1, Option.bind_some]
          rw [if_neg (by omega), if_neg g1, e3, Option.bind_some]
          unfold f_X11_next_87
          rw [if_pos (show (-9 : Int32) < 0 by decide), i1]
      · rw [if_neg g2] at e3
        rcases hb with ⟨rfl, rfl, h3⟩ | ⟨q, h1, rfl, rfl, h2, h3, h4⟩
        · refine ⟨sD_m d r2, nI i, nI (gu u n i), nI (i + 1), h, ⟨⟨r2, rfl⟩, Or.inr ⟨i, by omega, rfl, rfl, g1, by omega, fun q' h5 h6 => ?_⟩, rfl⟩, fun k => ?_⟩
          · rcases Nat.lt_or_ge q' i with k | k
            · have := h3 q' k h6; omega
            · rw [show q' = i by omega]; omega
          · simp (disch := omega) only [ile, i1, Option.bind_some]
            rw [if_neg (by omega), if_neg g1, e3, Option.bind_some]
            unfold f_X11_next_87
            show (if nI (gu u n i) < 0 then _ else if nI (gu u n i) < (1000000000 : Int32) then _ else _) = _
            rw [if_neg (nI_pos (by omega)), show (1000000000 : Int32) = nI 1000000000 from rfl, if_pos (by rw [ilt (by omega) (by decide)]; omega), i1]
        · have hq := gu_le u n q
          by_cases g3 : gu u n i < gu u n q
          · refine ⟨sD_m d r2, nI i, nI (gu u n i), nI (i + 1), h, ⟨⟨r2, rfl⟩, Or.inr ⟨i, by omega, rfl, rfl, g1, by omega, fun q' h5 h6 => ?_⟩, rfl⟩, fun k => ?_⟩
            · rcases Nat.lt_or_ge q' i with k | k
              · have := h4 q' k h6; omega
              · rw [show q' = i by omega]; omega
            · simp (disch := omega) only [ile, i1, Option.bind_some]
              rw [if_neg (by omega), if_neg g1, e3, Option.bind_some]
              unfold f_X11_next_87
              show (if nI (gu u n i) < 0 then _ else if nI (gu u n i) < nI (gu u n q) then _ else _) = _
              rw [if_neg (nI_pos (by omega)), if_pos (by rw [ilt (by omega) (by omega)]; omega), i1]
          · refine ⟨sD_m d r2, nI q, nI (gu u n q), nI (i + 1), h, ⟨⟨r2, rfl⟩, Or.inr ⟨q, by omega, rfl, rfl, h2, h3, fun q' h5 h6 => ?_⟩, rfl⟩, fun k => ?_⟩
            · rcases Nat.lt_or_ge q' i with k | k
              · exact h4 q' k h6
              · rw [show q' = i by omega]; omega
            · simp (disch := omega) only [ile, i1, Option.bind_some]
              rw [if_neg (by omega), if_neg g1, e3, Option.bind_some]
              unfold f_X11_next_87
              show (if nI (gu u n i) < 0 then _ else if nI (gu u n i) < nI (gu u n q) then _ else _) = _
              rw [if_neg (nI_pos (by omega)), if_neg (by rw [ilt (by omega) (by omega)]; omega), i1]
  · right
    obtain rfl : i = n := by omega
    refine ⟨some (if v = 0 then fwT u i i 0 else if fl u i = 100 then -9 else nI (fl u i), sD_m d r), ⟨r, rfl⟩, fun k => ?_⟩
    simp (disch := omega) only [ile]
    rw [if_pos (Nat.le_refl _)]
    rcases hb with ⟨rfl, rfl, h3⟩ | ⟨q, h1, rfl, rfl, h2, h3, h4⟩
    · have hf : fl u i = 100 := by
        have hl := (fl_le u i).1
        rcases Nat.lt_or_ge (fl u i) 100 with k | k
        · obtain ⟨p, hp, h5, h6⟩ := fl_hit k
          have := h3 p hp h5; omega
        · omega
      rw [if_pos (by decide), fw_none hf, if_pos hf]
      simp only [ite_self]
    · have hlow := fl_low h1 h2
      obtain ⟨p, hp, h5, h6⟩ := fl_hit (u := u) (n := i) (by omega)
      have h7 := (h4 p hp h5).1
      have hf : gu u i q = fl u i := by omega
      have hw := fw_is (u := u) (n := i) h2 ⟨hf, by omega⟩ i 0 (by omega) (by omega) (fun q' _ h8 h9 h10 => by
        have := (h4 q' (by omega) h9).2 h8; omega)
      rw [if_neg (nI_pos (by omega)), hw, if_neg (show ¬ fl u i = 100 by omega), hf]
      split <;> rfl
