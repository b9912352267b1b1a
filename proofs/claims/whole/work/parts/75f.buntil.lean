/-! until he is forgotten: behind how many weeks, of at most m more -/
def guT (u : VS) (n p : Nat) : Nat → Nat → Nat
  | 0, i => i
  | m + 1, i => if gV_here (wks u n i) p = 0 then i else guT u n p m (i + 1)
/-- 0 to 99, or 100: never -/
def gu (u : VS) (n p : Nat) : Nat := guT u n p 100 0
theorem guT_le (u : VS) (n p m : Nat) : ∀ i, guT u n p m i ≤ i + m ∧ i ≤ guT u n p m i := by
  induction m with
  | zero => intro i; exact ⟨Nat.le_refl _, Nat.le_refl _⟩
  | succ m ih =>
    intro i
    simp only [guT]
    split
    · exact ⟨by omega, Nat.le_refl _⟩
    · have := ih (i + 1); omega
theorem gu_le (u : VS) (n p : Nat) : gu u n p ≤ 100 := by have := (guT_le u n p 100 0).1; unfold gu; omega
theorem l100 : (100 : Int32) = nI 100 := rfl
theorem pu_X {u : VS} {n W p : Nat} (hI : IV n W u) (hW : W < 2 ^ 20) (hp : p < 8) : f_X8_passUntilForgotten u (nI p) = some (nI (gu u n p), wks u n (gu u n p)) := by
  have hG9 : guT u n p (100 - 0) 0 = gu u n p := by unfold gu; rw [Nat.sub_zero]
  generalize gu u n p = G at hG9 ⊢
  unfold f_X8_passUntilForgotten f_X8_passUntilForgotten_2
  refine lq2_inv (fun i a b => a = wks u n i ∧ b = nI i ∧ guT u n p (100 - i) i = G) (fun o => o = some (nI G, wks u n G)) 100 ?_ smN _ _ (smN_gt (by omega)) ⟨rfl, rfl, hG9⟩
  rintro i a b hi ⟨rfl, rfl, hg⟩
  unfold b_X8_passUntilForgotten_2
  rcases Nat.lt_or_ge i 100 with h | h
  · rw [show 100 - i = (99 - i) + 1 by omega] at hg
    simp only [guT] at hg
    by_cases g : gV_here (wks u n i) p = 0
    · right
      rw [if_pos g] at hg
      refine ⟨_, rfl, fun k => ?_⟩
      simp (disch := omega) only [l99, ilt, icl, ck_ok]
      rw [if_neg (by omega), if_pos g, ← hg]
    · left
      rw [if_neg g] at hg
      refine ⟨wks u n (i + 1), nI (i + 1), h, ⟨rfl, rfl, by rw [show 100 - (i + 1) = 99 - i by omega]; exact hg⟩, fun k => ?_⟩
      rw [wk_X (IV_wks hI i) (by omega)]
      simp (disch := omega) only [l99, ilt, icl, ck_ok, i1, Option.bind_some]
      rw [if_neg (by omega), if_neg g]
      rfl
  · right
    have hi : i = 100 := by omega
    rw [hi, Nat.sub_self] at hg
    simp only [guT] at hg
    refine ⟨_, rfl, fun k => ?_⟩
    simp (disch := omega) only [l99, ilt]
    rw [if_pos (by omega), ← hg, hi, l100]
theorem gi_M {u : VS} {n W p : Nat} (hI : IV n W u) (hp : p < 8) (d : DS) (hR : RV u (gD_m d)) : ∃ r', RV (wks u n (gu u n p)) r' ∧ f_X11_goesIn d (nI p) = some (if gu u n p = 100 then -9 else nI (gu u n p), sD_m d r') := by
  have hG9 : guT u n p (100 - 0) 0 = gu u n p := by unfold gu; rw [Nat.sub_zero]
  have hGle := gu_le u n p
  generalize gu u n p = G at hG9 hGle ⊢
  unfold f_X11_goesIn f_X11_goesIn_2
  refine lq2_inv (fun i a b => (∃ r, RV (wks u n i) r ∧ a = sD_m d r) ∧ b = nI i ∧ guT u n p (100 - i) i = G) (fun o => ∃ r', RV (wks u n G) r' ∧ o = some (if G = 100 then -9 else nI G, sD_m d r')) 100 ?_ smN _ _ (smN_gt (by omega)) ⟨⟨gD_m d, hR, rfl⟩, rfl, hG9⟩
  rintro i a b hi ⟨⟨r, hRa, rfl⟩, rfl, hg⟩
  have hIi := IV_wks hI i
  unfold b_X11_goesIn_2
  rcases Nat.lt_or_ge i 100 with h | h
  · rw [show 100 - i = (99 - i) + 1 by omega] at hg
    simp only [guT] at hg
    have eh : f_X11_isHere (gD_m (sD_m d r)) (nI p) = some (gV_here (wks u n i) p) := here_M hIi hRa hp
    by_cases g : gV_here (wks u n i) p = 0
    · right
      rw [if_pos g] at hg
      refine ⟨some (nI i, sD_m d r), ⟨r, ?_, ?_⟩, fun k => ?_⟩
      · rw [← hg]; exact hRa
      · rw [← hg, if_neg (by omega)]
      · rw [eh, Option.bind_some, if_pos g, if_neg]
        rw [l99, ilt (by decide) (by omega)]; omega
    · left
      rw [if_neg g] at hg
      obtain ⟨r', g1, g2⟩ := wk_M hIi hRa
      refine ⟨sD_m d r', nI (i + 1), h, ⟨⟨r', g1, rfl⟩, rfl, by rw [show 100 - (i + 1) = 99 - i by omega]; exact hg⟩, fun k => ?_⟩
      have e2 : f_X11_week (gD_m (sD_m d r)) = some r' := g2
      rw [eh, Option.bind_some, if_neg g, e2, Option.bind_some, i1, if_neg]
      rw [l99, ilt (by decide) (by omega)]; omega
  · right
    have hi : i = 100 := by omega
    rw [hi, Nat.sub_self] at hg
    simp only [guT] at hg
    refine ⟨some (-9, sD_m d r), ⟨r, ?_, ?_⟩, fun k => ?_⟩
    · rw [← hg, ← hi]; exact hRa
    · rw [← hg, if_pos rfl]
    · rw [if_pos]
      rw [l99, ilt (by decide) (by omega)]; omega
