/-! one statement read by the reference -/
abbrev Sd (d : DS) (p : Nat) (m : Nat → Int32) : DS := sD_place (sD_num d m) (nI p)
abbrev Beh (d : DS) (o : Option (Int32 × DS)) (r : Bool × Nat) (R : (Nat → Int32) → Prop) : Prop := (r.1 = true → ∃ m', o = some (1, Sd d r.2 m') ∧ R m') ∧ (r.1 = false → ∃ m', o = some (0, Sd d r.2 m'))
theorem s0_M (d : DS) : f_X11_readsStatement_267 d 0 = some (0, d) := by unfold f_X11_readsStatement_267; rw [if_pos rfl]
theorem fit59 (c : Int32) : fitb c 59 = decide (c = 59) := by unfold fitb; rw [if_neg (by decide), if_neg (by decide)]
theorem sem_M {d : DS} {N p : Nat} (hN : N ≤ 96) (hl : gD_letN d = nI N) (hp : p ≤ N) (m : Nat → Int32) {R : (Nat → Int32) → Prop} (hR : R m) : Beh d (f_X11_readsStatement_267 (Sd d p m) 1) (ffL (gD_let d) N [59] p) R := by
  unfold f_X11_readsStatement_267
  rw [if_neg (show ¬ (1 : Int32) = 0 by decide), hr_M hN hl hp m, Option.bind_some]
  by_cases g : p < N ∧ fitb (gD_let d p) 59 = true
  · rw [ffL_p _ g]
    have g2 : gD_let d p = 59 := by have := g.2; rw [fit59] at this; exact of_decide_eq_true this
    rw [if_pos g.1, if_pos g2]
    refine ⟨fun _ => ⟨m, ?_, hR⟩, fun h => by cases h⟩
    show some ((1 : Int32), sD_place (Sd d p m) (nI p + 1)) = some (1, Sd d (p + 1) m)
    rw [i1]
  · rw [ffL_n _ g]
    refine ⟨fun h => (by cases h), fun _ => ⟨m, ?_⟩⟩
    by_cases g1 : p < N
    · rw [if_pos g1, if_neg (fun e => g ⟨g1, by rw [fit59]; exact decide_eq_true e⟩)]
    · rw [if_neg g1, if_neg (by decide)]
theorem stg_n {d : DS} {N p i k : Nat} (hN : N ≤ 96) (hl : gD_letN d = nI N) (hp : p ≤ N) (hi : i < 3) (hk : k = 1 ∨ k = 2) (m : Nat → Int32) (C : DS → Option (Int32 × DS)) (l2 : List Int32) {R : (Nat → Int32) → Prop} (hC : ∀ e, e ≤ N → e = p + k → Beh d (C (Sd d e (upd m i (nmV (gD_let d) p k)))) (ffL (gD_let d) N l2 e) R) : Beh d ((f_X11_readsNumber (Sd d p m) (nI i) (nI k)).bind fun z => if z.1 = 0 then f_X11_readsStatement_267 z.2 0 else C z.2) (ffL (gD_let d) N (List.replicate k 48 ++ l2) p) R := by
  rw [ffL_app]
  have h := rn_M hN hl hp hi hk m
  have he := (ffL_end (gD_let d) N (List.replicate k 48) p hp).1
  cases g : (ffL (gD_let d) N (List.replicate k 48) p).1 with
  | true =>
    rw [h.1 g, Option.bind_some, if_neg (show ¬ (1 : Int32) = 0 by decide), if_pos rfl]
    exact hC _ he (by have := ((ffL_end (gD_let d) N (List.replicate k 48) p hp).2.2 g).1; rw [List.length_replicate] at this; exact this)
  | false =>
    obtain ⟨m', e⟩ := h.2 g
    rw [e, Option.bind_some, if_pos rfl, if_neg (by decide), s0_M]
    exact ⟨fun q => (by cases q), fun _ => ⟨m', rfl⟩⟩
theorem stg_1 {d : DS} {N p i k : Nat} (hN : N ≤ 96) (hl : gD_letN d = nI N) (hp : p ≤ N) (hi : i < 3) (hk : k = 1 ∨ k = 2) (m : Nat → Int32) {R : (Nat → Int32) → Prop} (hR : R (upd m i (nmV (gD_let d) p k))) : Beh d ((f_X11_readsNumber (Sd d p m) (nI i) (nI k)).bind fun z => f_X11_readsStatement_267 z.2 z.1) (ffL (gD_let d) N (List.replicate k 48 ++ [59]) p) R := by
  rw [ffL_app]
  have h := rn_M hN hl hp hi hk m
  have he := (ffL_end (gD_let d) N (List.replicate k 48) p hp).1
  cases g : (ffL (gD_let d) N (List.replicate k 48) p).1 with
  | true =>
    rw [h.1 g, Option.bind_some, if_pos rfl]
    exact sem_M hN hl he _ hR
  | false =>
    obtain ⟨m', e⟩ := h.2 g
    rw [e, Option.bind_some, if_neg (by decide), s0_M]
    exact ⟨fun q => (by cases q), fun _ => ⟨m', rfl⟩⟩
abbrev NmP (t : Nat → Int32) (s : Nat) (m : Nat → Int32) : Prop := ((t s = 98 ∨ t s = 110) → m 0 = dgV t (s + 1)) ∧ (t s = 111 → m 0 = dgV t (s + 1) ∧ m 1 = nmV t (s + 2) 2) ∧ (t s = 112 → m 0 = kix (i2cV (t (s + 1))) ∧ m 1 = dgV t (s + 2)) ∧ (t s = 114 → m 0 = dgV t (s + 1) ∧ m 1 = dgV t (s + 2) ∧ m 2 = nmV t (s + 3) 2) ∧ (t s = 115 → m 0 = dgV t (s + 1) ∧ m 1 = dgV t (s + 2)) ∧ (t s = 119 → m 0 = nmV t (s + 1) 2)
theorem nx_pl (d : DS) (s : Nat) (m : Nat → Int32) : sD_place (Sd d s m) (gD_place (Sd d s m) + (1 : Int32)) = Sd d (s + 1) m := by
  show sD_place (sD_num d m) (nI s + 1) = _
  rw [i1]
theorem nmV1 (t : Nat → Int32) (p : Nat) : nmV t p 1 = dgV t p := by unfold nmV; rw [if_pos rfl]
theorem fit_own {c b : Int32} (h : c = b) (h1 : ¬ b = 48) (h2 : ¬ b = 107) : fitb c b = true := by unfold fitb; rw [if_neg h1, if_neg h2]; exact decide_eq_true h
theorem rs_M {d : DS} {N s : Nat} (hN : N ≤ 96) (hl : gD_letN d = nI N) (hc : ∀ i, i < N → ∃ c, c < 256 ∧ gD_let d i = nI c) (hs : s ≤ N) (m : Nat → Int32) : Beh d (f_X11_readsStatement (Sd d s m)) (rdS (gD_let d) N s) (NmP (gD_let d) s) := by
  unfold f_X11_readsStatement
  rw [hr_M hN hl hs m, Option.bind_some, nx_pl]
  unfold rdS
  have back : Beh d ((some (gD_place (Sd d (s + 1) m) - (1 : Int32))).bind fun v262 => some ((0 : Int32), sD_place (Sd d (s + 1) m) v262)) (false, s) (NmP (gD_let d) s) := by
    refine ⟨fun h => (by cases h), fun _ => ⟨m, ?_⟩⟩
    rw [Option.bind_some]
    show some ((0 : Int32), sD_place (Sd d (s + 1) m) (nI (s + 1) - nI 1)) = _
    rw [pk_sub (by omega)]
    rfl
  by_cases hsN : s < N
  · rw [if_pos hsN, if_pos hsN]
    generalize hT : gD_let d s = c
    unfold shI
    have hs1 : s + 1 ≤ N := by omega
    by_cases c1 : c = 98
    · rw [if_pos c1, if_pos c1, if_neg (show ¬ 5 = 0 by decide), show shL 5 = 98 :: (List.replicate 1 48 ++ [59]) from rfl, ffL_p _ ⟨hsN, fit_own (hT.trans c1) (by decide) (by decide)⟩]
      refine stg_1 hN hl hs1 (i := 0) (by decide) (Or.inl rfl) m ?_
      rw [c1] at hT
      rw [nmV1]
      refine ⟨fun _ => us, ?_, ?_, ?_, ?_, ?_⟩ <;> (intro h; rw [hT] at h; exact absurd h (by decide))
    rw [if_neg c1, if_neg c1]
    by_cases c2 : c = 110
    · rw [if_pos c2, if_pos c2, if_neg (show ¬ 6 = 0 by decide), show shL 6 = 110 :: (List.replicate 1 48 ++ [59]) from rfl, ffL_p _ ⟨hsN, fit_own (hT.trans c2) (by decide) (by decide)⟩]
      refine stg_1 hN hl hs1 (i := 0) (by decide) (Or.inl rfl) m ?_
      rw [c2] at hT
      rw [nmV1]
      refine ⟨fun _ => us, ?_, ?_, ?_, ?_, ?_⟩ <;> (intro h; rw [hT] at h; exact absurd h (by decide))
    rw [if_neg c2, if_neg c2]
    by_cases c3 : c = 111
    · rw [if_pos c3, if_pos c3, if_neg (show ¬ 3 = 0 by decide), show shL 3 = 111 :: (List.replicate 1 48 ++ (List.replicate 2 48 ++ [59])) from rfl, ffL_p _ ⟨hsN, fit_own (hT.trans c3) (by decide) (by decide)⟩]
      rw [c3] at hT
      refine stg_n hN hl hs1 (i := 0) (by decide) (Or.inl rfl) m (fun z184 => (f_X11_readsNumber z184 (1 : Int32) (2 : Int32)).bind fun z193 => if z193.1 = 0 then f_X11_readsStatement_267 z193.2 0 else f_X11_readsStatement_267 z193.2 1) (List.replicate 2 48 ++ [59]) (fun e he ee => ?_)
      refine stg_n hN hl he (i := 1) (by decide) (Or.inr rfl) _ (fun z => f_X11_readsStatement_267 z 1) [59] (fun e2 he2 _ => ?_)
      refine sem_M hN hl he2 _ ?_
      rw [nmV1, ee]
      refine ⟨?_, fun _ => ⟨(un (by decide)).trans us, us⟩, ?_, ?_, ?_, ?_⟩ <;> (intro h; rw [hT] at h; first | exact absurd h (by decide) | (rcases h with h | h <;> exact absurd h (by decide)))
    rw [if_neg c3, if_neg c3]
    by_cases c4 : c = 112
    · rw [if_pos c4, if_pos c4, if_neg (show ¬ 1 = 0 by decide), show shL 1 = 112 :: (107 :: (List.replicate 1 48 ++ [59])) from rfl, ffL_p _ ⟨hsN, fit_own (hT.trans c4) (by decide) (by decide)⟩]
      rw [c4] at hT
      have hk := rk_M hN hl hc hs1 m
      by_cases g : s + 1 < N ∧ fitb (gD_let d (s + 1)) 107 = true
      · rw [hk.1 g, ffL_p _ g, Option.bind_some, if_neg (show ¬ (1 : Int32) = 0 by decide)]
        refine stg_n hN hl (show s + 1 + 1 ≤ N by omega) (i := 1) (by decide) (Or.inl rfl) _ (fun z => f_X11_readsStatement_267 z 1) [59] (fun e2 he2 _ => ?_)
        refine sem_M hN hl he2 _ ?_
        rw [nmV1]
        refine ⟨?_, ?_, fun _ => ⟨(un (by decide)).trans us, us⟩, ?_, ?_, ?_⟩ <;> (intro h; rw [hT] at h; first | exact absurd h (by decide) | (rcases h with h | h <;> exact absurd h (by decide)))
      · obtain ⟨m', e⟩ := hk.2 g
        rw [e, ffL_n _ g, Option.bind_some, if_pos rfl, s0_M]
        exact ⟨fun q => (by cases q), fun _ => ⟨m', rfl⟩⟩
    rw [if_neg c4, if_neg c4]
    by_cases c5 : c = 114
    · rw [if_pos c5, if_pos c5, if_neg (show ¬ 2 = 0 by decide), show shL 2 = 114 :: (List.replicate 1 48 ++ (List.replicate 1 48 ++ (List.replicate 2 48 ++ [59]))) from rfl, ffL_p _ ⟨hsN, fit_own (hT.trans c5) (by decide) (by decide)⟩]
      rw [c5] at hT
      refine stg_n hN hl hs1 (i := 0) (by decide) (Or.inl rfl) m (fun z148 => (f_X11_readsNumber z148 (1 : Int32) (1 : Int32)).bind fun z157 => if z157.1 = 0 then f_X11_readsStatement_267 z157.2 0 else (f_X11_readsNumber z157.2 (2 : Int32) (2 : Int32)).bind fun z166 => if z166.1 = 0 then f_X11_readsStatement_267 z166.2 0 else f_X11_readsStatement_267 z166.2 1) (List.replicate 1 48 ++ (List.replicate 2 48 ++ [59])) (fun e he ee => ?_)
      refine stg_n hN hl he (i := 1) (by decide) (Or.inl rfl) _ (fun z157 => (f_X11_readsNumber z157 (2 : Int32) (2 : Int32)).bind fun z166 => if z166.1 = 0 then f_X11_readsStatement_267 z166.2 0 else f_X11_readsStatement_267 z166.2 1) (List.replicate 2 48 ++ [59]) (fun e1 he1 ee1 => ?_)
      refine stg_n hN hl he1 (i := 2) (by decide) (Or.inr rfl) _ (fun z => f_X11_readsStatement_267 z 1) [59] (fun e2 he2 _ => ?_)
      refine sem_M hN hl he2 _ ?_
      rw [nmV1, nmV1, ee1, ee]
      refine ⟨?_, ?_, ?_, fun _ => ⟨(un (by decide)).trans ((un (by decide)).trans us), (un (by decide)).trans us, us⟩, ?_, ?_⟩ <;> (intro h; rw [hT] at h; first | exact absurd h (by decide) | (rcases h with h | h <;> exact absurd h (by decide)))
    rw [if_neg c5, if_neg c5]
    by_cases c6 : c = 115
    · rw [if_pos c6, if_pos c6, if_neg (show ¬ 4 = 0 by decide), show shL 4 = 115 :: (List.replicate 1 48 ++ (List.replicate 1 48 ++ [59])) from rfl, ffL_p _ ⟨hsN, fit_own (hT.trans c6) (by decide) (by decide)⟩]
      rw [c6] at hT
      refine stg_n hN hl hs1 (i := 0) (by decide) (Or.inl rfl) m (fun z211 => (f_X11_readsNumber z211 (1 : Int32) (1 : Int32)).bind fun z220 => if z220.1 = 0 then f_X11_readsStatement_267 z220.2 0 else f_X11_readsStatement_267 z220.2 1) (List.replicate 1 48 ++ [59]) (fun e he ee => ?_)
      refine stg_n hN hl he (i := 1) (by decide) (Or.inl rfl) _ (fun z => f_X11_readsStatement_267 z 1) [59] (fun e2 he2 _ => ?_)
      refine sem_M hN hl he2 _ ?_
      rw [nmV1, nmV1, ee]
      refine ⟨?_, ?_, ?_, ?_, fun _ => ⟨(un (by decide)).trans us, us⟩, ?_⟩ <;> (intro h; rw [hT] at h; first | exact absurd h (by decide) | (rcases h with h | h <;> exact absurd h (by decide)))
    rw [if_neg c6, if_neg c6]
    by_cases c7 : c = 119
    · rw [if_pos c7, if_pos c7, if_neg (show ¬ 7 = 0 by decide), show shL 7 = 119 :: (List.replicate 2 48 ++ [59]) from rfl, ffL_p _ ⟨hsN, fit_own (hT.trans c7) (by decide) (by decide)⟩]
      rw [c7] at hT
      refine stg_1 hN hl hs1 (i := 0) (by decide) (Or.inr rfl) m ?_
      refine ⟨?_, ?_, ?_, ?_, ?_, fun _ => us⟩ <;> (intro h; rw [hT] at h; first | exact absurd h (by decide) | (rcases h with h | h <;> exact absurd h (by decide)))
    rw [if_neg c7, if_neg c7, if_pos rfl]
    exact back
  · rw [if_neg hsN, if_neg hsN]
    rw [if_neg (by decide), if_neg (by decide), if_neg (by decide), if_neg (by decide), if_neg (by decide), if_neg (by decide), if_neg (by decide)]
    exact back
