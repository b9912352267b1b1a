/-! the second pass, and the whole telling -/
theorem ffL_c {t t' : Nat → Int32} {N : Nat} (h : ∀ i, i < N → t i = t' i) : ∀ (l : List Int32) (p : Nat), ffL t N l p = ffL t' N l p := by
  intro l
  induction l with
  | nil => intro p; rfl
  | cons b l ih =>
    intro p
    by_cases g : p < N
    · have e := h p g
      by_cases g2 : fitb (t p) b = true
      · rw [ffL_p l ⟨g, g2⟩, ffL_p l ⟨g, by rw [← e]; exact g2⟩]; exact ih (p + 1)
      · rw [ffL_n l (fun q => g2 q.2), ffL_n l (fun q => g2 (by rw [e]; exact q.2))]
    · rw [ffL_n l (fun q => g q.1), ffL_n l (fun q => g q.1)]
theorem rdS_c {t t' : Nat → Int32} {N : Nat} (h : ∀ i, i < N → t i = t' i) (s : Nat) : rdS t N s = rdS t' N s := by
  unfold rdS
  by_cases g : s < N
  · rw [if_pos g, if_pos g, h s g, ffL_c h]
  · rw [if_neg g, if_neg g]
theorem p1_c {t t' : Nat → Int32} {N : Nat} (h : ∀ i, i < N → t i = t' i) : ∀ f s, p1 t N f s = p1 t' N f s := by
  intro f
  induction f with
  | zero => intro s; rfl
  | succ f ih =>
    intro s
    simp only [p1]
    rw [rdS_c h s, ih]
theorem dig_in {t : Nat → Int32} {N p : Nat} (hc : ∀ i, i < N → ∃ c, c < 256 ∧ t i = nI c) (hp : p < N) (h : fitb (t p) 48 = true) : ∃ k, k ≤ 9 ∧ dgV t p = nI k := by
  obtain ⟨c, h1, h2⟩ := hc p hp
  rw [fit48] at h
  have h := of_decide_eq_true h
  unfold dgV
  rw [h2] at h ⊢
  rw [show (48 : Int32) = nI 48 from rfl, show (57 : Int32) = nI 57 from rfl, ilt (by omega) (by decide), ilt (by decide) (by omega)] at h
  exact ⟨c - 48, by omega, by rw [show (48 : Int32) = nI 48 from rfl, pk_sub (by omega)]⟩
theorem nmV_in {t : Nat → Int32} {N p : Nat} (hc : ∀ i, i < N → ∃ c, c < 256 ∧ t i = nI c) (hp : p + 1 < N) (h : fitb (t p) 48 = true) (h' : fitb (t (p + 1)) 48 = true) : ∃ k, k ≤ 99 ∧ nmV t p 2 = nI k := by
  obtain ⟨a, h1, h2⟩ := dig_in hc (show p < N by omega) h
  obtain ⟨b, h3, h4⟩ := dig_in hc hp h'
  unfold nmV
  rw [if_neg (by decide), h2, h4, ix10]
  exact ⟨10 * a + b, by omega, rfl⟩
theorem dg_X {t : TS} {N p : Nat} (hs : gT_size t = nI N) (hN : N ≤ 96) (hp : p < N) : f_X7_digit t (nI p) = some (dgV (gT_let t) p) := by
  unfold f_X7_digit dgV
  rw [hs, if_neg (by rw [ile (by omega) (by omega)]; omega), ck_ok (by omega) (by decide), icl (by omega)]
theorem num_X {t : TS} {N p : Nat} (hs : gT_size t = nI N) (hN : N ≤ 96) (hp : p + 1 < N) : f_X7_number t (nI p) = some (nmV (gT_let t) p 2) := by
  unfold f_X7_number nmV
  rw [dg_X hs hN (show p < N by omega), Option.bind_some, i1, dg_X hs hN hp, Option.bind_some, if_neg (by decide)]
abbrev liftT (t : TS) (o : Option (Int32 × VS)) : Option (Int32 × (TS × VS)) := o.bind fun z => some (z.1, (t, z.2))
theorem co_zr {o : Option (Int32 × VS)} (t : TS) {ok : Int32} {v : VS} (h : o = some (ok, v)) (h1 : ok = 0 ∨ ok = 1) : (o.bind fun z => zr z.1 (some (z.1, (t, z.2)))) = some (ok, (t, v)) := by
  rw [h, Option.bind_some, zr01 h1]
theorem ni2 (a b : Nat) : nI a + nI b = nI (a + b) := nI_add a b
/-- one statement, both sides -/
theorem ex_all {n W N s : Nat} {t : TS} {v : VS} {d : DS} {m : Nat → Int32} (hI : IV n W v) (hW : W ≤ 999) (hR : RV v (gD_s d)) (hN : N ≤ 96) (hs : gT_size t = nI N) (hlet : ∀ i, i < N → gT_let t i = gD_let d i) (hc : ∀ i, i < N → ∃ c, c < 256 ∧ gD_let d i = nI c) (hsN : s ≤ N) (hg : (rdS (gD_let d) N s).1 = true) (hm : NmP (gD_let d) s m) : ∃ ok v' r', f_X7_carryOut (t, v) (nI s) = some (ok, (t, v')) ∧ f_X11_isDone (Sd d (rdS (gD_let d) N s).2 m) (gD_let d s) = some (ok, sD_s (Sd d (rdS (gD_let d) N s).2 m) r') ∧ ((ok = 1 ∧ ∃ n' W', IV n' W' v' ∧ W' ≤ 999 ∧ RV v' r') ∨ (ok = 0 ∧ AnyV v')) := by
  obtain ⟨q1, q2, q3⟩ := rdS_end (gD_let d) N s hsN
  obtain ⟨h1, h2, h3, h4⟩ := q3 hg
  generalize hE : (rdS (gD_let d) N s).2 = e at q1 q2 h3
  have key : ∀ (ox : Option (Int32 × VS)), f_X7_carryOut (t, v) (nI s) = (ox.bind fun z => zr z.1 (some (z.1, (t, z.2)))) → EX (Sd d e m) ox (f_X11_isDone (Sd d e m) (gD_let d s)) → ∃ ok v' r', f_X7_carryOut (t, v) (nI s) = some (ok, (t, v')) ∧ f_X11_isDone (Sd d e m) (gD_let d s) = some (ok, sD_s (Sd d e m) r') ∧ ((ok = 1 ∧ ∃ n' W', IV n' W' v' ∧ W' ≤ 999 ∧ RV v' r') ∨ (ok = 0 ∧ AnyV v')) := by
    rintro ox h5 ⟨ok, v', r', h6, h7, h8⟩
    refine ⟨ok, v', r', ?_, h7, h8⟩
    rw [h5]
    exact co_zr t h6 (by rcases h8 with h8 | h8; exact Or.inr h8.1; exact Or.inl h8.1)
  have hRd : RV v (gD_s (Sd d e m)) := hR
  have hT := hlet s h1
  obtain ⟨p1', p2, p3, p4, p5, p6⟩ := hm
  have dgx : ∀ p, p < N → f_X7_digit t (nI p) = some (dgV (gD_let d) p) := by
    intro p hp
    rw [dg_X hs hN hp]
    unfold dgV
    rw [hlet p hp]
  have nmx : ∀ p, p + 1 < N → f_X7_number t (nI p) = some (nmV (gD_let d) p 2) := by
    intro p hp
    rw [num_X hs hN hp]
    unfold nmV dgV
    rw [hlet p (by omega), hlet (p + 1) hp]
  have ca : ∀ j, nI s + nI j = nI (s + j) := fun j => nI_add s j
  unfold f_X7_carryOut at key ⊢
  rw [ck_ok (show s < 96 by omega) (by decide), icl (by omega), show gT_let (t, v).1 s = gD_let d s from hT] at key ⊢
  generalize hC : gD_let d s = c at h2 h3 h4 p1' p2 p3 p4 p5 p6 key ⊢
  unfold shI at h2 h3 h4
  by_cases c1 : c = 98
  · rw [if_pos c1] at h2 h3 h4 key ⊢
    obtain ⟨k, k1, k2⟩ := dig_in hc (show s + 1 < N by have : lnS 5 = 3 := rfl; omega) (h4 1 (by decide))
    have e1 : f_X7_digit (t, v).1 (nI s + (1 : Int32)) = some (nI k) := by rw [i1, ← k2]; exact dgx (s + 1) (by have : lnS 5 = 3 := rfl; omega)
    rw [e1, Option.bind_some] at key ⊢
    refine key _ rfl ?_
    rw [c1]
    exact ex_back hI hW hRd k1 ((p1' (Or.inl c1)).trans k2)
  rw [if_neg c1] at h2 h3 h4 key ⊢
  by_cases c2 : c = 110
  · rw [if_pos c2] at h2 h3 h4 key ⊢
    have hn : lnS 6 = 3 := rfl
    obtain ⟨k, k1, k2⟩ := dig_in hc (show s + 1 < N by omega) (h4 1 (by decide))
    have e1 : f_X7_digit (t, v).1 (nI s + (1 : Int32)) = some (nI k) := by rw [i1, ← k2]; exact dgx (s + 1) (by omega)
    rw [e1, Option.bind_some] at key ⊢
    refine key _ rfl ?_
    rw [c2]
    exact ex_names hI hW hRd k1 ((p1' (Or.inr c2)).trans k2)
  rw [if_neg c2] at h2 h3 h4 key ⊢
  by_cases c3 : c = 111
  · rw [if_pos c3] at h2 h3 h4 key ⊢
    have hn : lnS 3 = 5 := rfl
    obtain ⟨k, k1, k2⟩ := dig_in hc (show s + 1 < N by omega) (h4 1 (by decide))
    obtain ⟨a, a1, a2⟩ := nmV_in hc (show s + 2 + 1 < N by omega) (h4 2 (by decide)) (h4 3 (by decide))
    have e1 : f_X7_digit (t, v).1 (nI s + (1 : Int32)) = some (nI k) := by rw [i1, ← k2]; exact dgx (s + 1) (by omega)
    have e2 : f_X7_number (t, v).1 (nI s + (2 : Int32)) = some (nI a) := by rw [l2, ca, ← a2]; exact nmx (s + 2) (by omega)
    rw [e1, Option.bind_some, e2, Option.bind_some] at key ⊢
    refine key _ rfl ?_
    rw [c3]
    exact ex_owes hI hW hRd k1 a1 ((p2 c3).1.trans k2) ((p2 c3).2.trans a2)
  rw [if_neg c3] at h2 h3 h4 key ⊢
  by_cases c4 : c = 112
  · rw [if_pos c4] at h2 h3 h4 key ⊢
    have hn : lnS 1 = 4 := rfl
    obtain ⟨f, f1, f2⟩ := dig_in hc (show s + 2 < N by omega) (h4 2 (by decide))
    obtain ⟨c0, g1, g2⟩ := hc (s + 1) (by omega)
    have g3 : fitb (gD_let d (s + 1)) 107 = true := h4 1 (by decide)
    rw [fit107, g2] at g3
    have g3 := of_decide_eq_true g3
    obtain ⟨-, kk, kk1, kk2⟩ := (kind_eq c0 g1).2 g3
    have e3 : f_X7_digit (t, v).1 (nI s + (2 : Int32)) = some (nI f) := by rw [l2, ca, ← f2]; exact dgx (s + 2) (by omega)
    have e4 : f_X7_carryOutPerson (t, v) (nI s) = (if gV_people v < (8 : Int32) then (f_X8_comes v (nI kk) (nI f)).bind fun z => some ((1 : Int32), (t, z)) else some (0, (t, v))) := by
      unfold f_X7_carryOutPerson
      have e5 : gT_size (t, v).1 = nI N := hs
      rw [e5, i1, if_neg (by rw [ile (by omega) (by omega)]; omega), ck_ok (by omega) (by decide), icl (by omega), show gT_let (t, v).1 (s + 1) = nI c0 from (hlet (s + 1) (by omega)).trans g2, kk2]
      unfold f_X7_carryOutPerson_29
      rw [if_neg (nI_pos (by omega)), e3, Option.bind_some]
    rw [e4] at key ⊢
    have hm1 : gD_num (Sd d e m) 0 = nI kk := by
      have := (p3 c4).1
      rw [g2, kk2] at this
      exact this
    refine key (if gV_people v < (8 : Int32) then (f_X8_comes v (nI kk) (nI f)).bind fun z => some ((1 : Int32), z) else some (0, v)) ?_ ?_
    · split
      · cases f_X8_comes v (nI kk) (nI f) <;> rfl
      · rfl
    · rw [c4]
      exact ex_person hI hW hRd kk1 f1 hm1 ((p3 c4).2.trans f2)
  rw [if_neg c4] at h2 h3 h4 key ⊢
  by_cases c5 : c = 114
  · rw [if_pos c5] at h2 h3 h4 key ⊢
    have hn : lnS 2 = 6 := rfl
    obtain ⟨k, k1, k2⟩ := dig_in hc (show s + 1 < N by omega) (h4 1 (by decide))
    obtain ⟨j, j1, j2⟩ := dig_in hc (show s + 2 < N by omega) (h4 2 (by decide))
    obtain ⟨a, a1, a2⟩ := nmV_in hc (show s + 3 + 1 < N by omega) (h4 3 (by decide)) (h4 4 (by decide))
    have e1 : f_X7_digit (t, v).1 (nI s + (1 : Int32)) = some (nI k) := by rw [i1, ← k2]; exact dgx (s + 1) (by omega)
    have e2 : f_X7_digit (t, v).1 (nI s + (2 : Int32)) = some (nI j) := by rw [l2, ca, ← j2]; exact dgx (s + 2) (by omega)
    have e3 : f_X7_number (t, v).1 (nI s + (3 : Int32)) = some (nI a) := by rw [l3, ca, ← a2]; exact nmx (s + 3) (by omega)
    rw [e1, Option.bind_some, e2, Option.bind_some, e3, Option.bind_some] at key ⊢
    refine key _ rfl ?_
    rw [c5]
    exact ex_recalls hI hW hRd k1 j1 a1 ((p4 c5).1.trans k2) ((p4 c5).2.1.trans j2) ((p4 c5).2.2.trans a2)
  rw [if_neg c5] at h2 h3 h4 key ⊢
  by_cases c6 : c = 115
  · rw [if_pos c6] at h2 h3 h4 key ⊢
    have hn : lnS 4 = 4 := rfl
    obtain ⟨k, k1, k2⟩ := dig_in hc (show s + 1 < N by omega) (h4 1 (by decide))
    obtain ⟨j, j1, j2⟩ := dig_in hc (show s + 2 < N by omega) (h4 2 (by decide))
    have e1 : f_X7_digit (t, v).1 (nI s + (1 : Int32)) = some (nI k) := by rw [i1, ← k2]; exact dgx (s + 1) (by omega)
    have e2 : f_X7_digit (t, v).1 (nI s + (2 : Int32)) = some (nI j) := by rw [l2, ca, ← j2]; exact dgx (s + 2) (by omega)
    rw [e1, Option.bind_some, e2, Option.bind_some] at key ⊢
    refine key _ rfl ?_
    rw [c6]
    exact ex_speaks hI hW hRd k1 j1 ((p5 c6).1.trans k2) ((p5 c6).2.trans j2)
  rw [if_neg c6] at h2 h3 h4 key ⊢
  by_cases c7 : c = 119
  · rw [if_pos c7] at h2 h3 h4
    have hn : lnS 7 = 4 := rfl
    obtain ⟨a, a1, a2⟩ := nmV_in hc (show s + 1 + 1 < N by omega) (h4 1 (by decide)) (h4 2 (by decide))
    have e3 : f_X7_number (t, v).1 (nI s + (1 : Int32)) = some (nI a) := by rw [i1, ← a2]; exact nmx (s + 1) (by omega)
    rw [e3, Option.bind_some] at key ⊢
    refine key _ rfl ?_
    exact ex_weeks hI hW hRd a1 ((p6 c7).trans a2) c7
  · rw [if_neg c7] at h2
    exact absurd rfl h2
/-- the places inside a statement are no starts; the next one is -/
theorem no59 {c b : Int32} (h : fitb c b = true) (hb : ¬ b = 59) : ¬ c = 59 := by
  intro e
  subst e
  unfold fitb at h
  by_cases g1 : b = 48
  · rw [if_pos g1] at h; exact absurd h (by decide)
  · rw [if_neg g1] at h
    by_cases g2 : b = 107
    · rw [if_pos g2] at h; exact absurd h (by decide)
    · rw [if_neg g2] at h; exact hb (of_decide_eq_true h).symm
theorem ch59 : ∀ k, k < 8 → ¬ k = 0 → (∀ j, j < 6 → j + 1 < lnS k → ¬ chS k j = 59) ∧ chS k (lnS k - 1) = 59 := by decide
theorem st_in {t : TS} {N p : Nat} (hN : N ≤ 96) (hp : p < N) (h0 : 0 < p) : f_X7_isStart t (nI p) = some (if gT_let t (p - 1) = 59 then 1 else 0) := by
  unfold f_X7_isStart
  rw [if_neg (by rw [l0, ieq (by omega) (by omega)]; omega), l1, pk_sub (by omega), ck_ok (by omega) (by decide), icl (by omega)]
  split <;> rfl
/-- the class goes over the places inside -/
theorem te_in {t : TS} {N : Nat} (hs : gT_size t = nI N) (hN : N ≤ 96) {v : VS} {x3 : Int32} {e : Nat} (he : e ≤ N) : ∀ g p mm, p + g = e → 0 < p → g < mm → (∀ q, p ≤ q → q < e → ¬ gT_let t (q - 1) = 59) → f_X7_tell_22 mm (t, v) x3 (nI p) = f_X7_tell_22 (mm - g) (t, v) x3 (nI e) := by
  intro g
  induction g with
  | zero => intro p mm h1 h2 h3 h4; rw [show p = e by omega, Nat.sub_zero]
  | succ g ih =>
    intro p mm h1 h2 h3 h4
    obtain ⟨m', rfl⟩ : ∃ m', mm = m' + 1 := ⟨mm - 1, by omega⟩
    have e0 : f_X7_tell_22 (m' + 1) (t, v) x3 (nI p) = f_X7_tell_22 m' (t, v) x3 (nI (p + 1)) := by
      show b_X7_tell_22 (f_X7_tell_22 m') (t, v) x3 (nI p) = _
      unfold b_X7_tell_22
      have e5 : gT_size (t, v).1 = nI N := hs
      have e6 : f_X7_isStart (t, v).1 (nI p) = some 0 := by
        have := st_in (t := t) hN (show p < N by omega) h2
        rw [if_neg (h4 p (Nat.le_refl _) (by omega))] at this
        exact this
      rw [e5, if_neg (by rw [ile (by omega) (by omega)]; omega), e6, Option.bind_some, if_pos rfl, i1]
    rw [e0, ih (p + 1) m' (by omega) (by omega) (by omega) (fun q h5 h6 => h4 q (by omega) h6), show m' - g = m' + 1 - (g + 1) by omega]
