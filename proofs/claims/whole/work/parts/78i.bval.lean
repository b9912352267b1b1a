/-! both passes of the reference against the class -/
theorem w1000 : ∀ q, q < 97 → ¬ ((-1000 : Int32) - nI q = -9) ∧ ¬ ((-2000 : Int32) - nI q = -9) ∧ ((-1000 : Int32) - nI q ≤ 0) ∧ ((-2000 : Int32) - nI q ≤ 0) := by decide
theorem lq3S {A1 A2 A3 β : Type} (step : (A1 → A2 → A3 → Option β) → A1 → A2 → A3 → Option β) (n : Nat) (a : A1) (b : A2) (c : A3) : lq3 step (n + 1) a b c = step (lq3 step n) a b c := rfl
def wr1 (o : Option Nat) : Int32 := match o with | none => -9 | some q => (-1000 : Int32) - nI q
theorem p1_le (t : Nat → Int32) (N : Nat) : ∀ f s q, s ≤ N → (p1 t N f s).1 = some q → q ≤ N := by
  intro f
  induction f with
  | zero => intro s q hs h; have := Option.some.inj h; omega
  | succ f ih =>
    intro s q hs h
    obtain ⟨q1, q2, q3⟩ := rdS_end t N s hs
    cases g : (rdS t N s).1 with
    | false => rw [p1_no f g] at h; have := Option.some.inj h; omega
    | true =>
      by_cases g2 : (rdS t N s).2 < N
      · rw [p1_go f g g2] at h; exact ih _ q q1 h
      · rw [p1_end f g g2] at h; cases h
theorem v10_M {d : DS} {N : Nat} (hN : N ≤ 96) (hl : gD_letN d = nI N) (hc : ∀ i, i < N → ∃ c, c < 256 ∧ gD_let d i = nI c) : ∀ f s a mm m, s ≤ N → N - s < f → N - s < mm → (∃ q m' x, f_X11_valley_10 mm (Sd d s m) (nI a) (-9) = f_X11_valley_46 (Sd d q m') x (wr1 (p1 (gD_let d) N f s).1) ∧ ((p1 (gD_let d) N f s).1 = none → x = nI (a + (p1 (gD_let d) N f s).2))) := by
  intro f
  induction f with
  | zero => intro s a mm m hs h; omega
  | succ f ih =>
    intro s a mm m hs h1 h2
    obtain ⟨mm', rfl⟩ : ∃ m', mm = m' + 1 := ⟨mm - 1, by omega⟩
    have e0 : f_X11_valley_10 (mm' + 1) (Sd d s m) (nI a) (-9) = b_X11_valley_10 (f_X11_valley_10 mm') (Sd d s m) (nI a) (-9) := rfl
    rw [e0]
    unfold b_X11_valley_10
    obtain ⟨q1, q2, q3⟩ := rdS_end (gD_let d) N s hs
    have hB := rs_M hN hl hc hs m
    cases g : (rdS (gD_let d) N s).1 with
    | false =>
      obtain ⟨m', e⟩ := hB.2 g
      have e1 : gD_place (Sd d (rdS (gD_let d) N s).2 m') = nI (rdS (gD_let d) N s).2 := rfl
      rw [e, Option.bind_some, if_pos rfl, e1, p1_no f g]
      unfold f_X11_valley_26
      rw [if_neg (w1000 (rdS (gD_let d) N s).2 (by omega)).1]
      exact ⟨_, m', _, rfl, fun h => by cases h⟩
    | true =>
      obtain ⟨m', e, -⟩ := hB.1 g
      obtain ⟨h3, h4, h5, -⟩ := q3 g
      have h6 := (ln_6 (shI (gD_let d s)) (by have := shI_8 (gD_let d s); omega)).2.2 h4
      have e1 : gD_place (Sd d (rdS (gD_let d) N s).2 m') = nI (rdS (gD_let d) N s).2 := rfl
      have e2 : gD_letN (Sd d (rdS (gD_let d) N s).2 m') = nI N := hl
      rw [e, Option.bind_some, if_neg (show ¬ (1 : Int32) = 0 by decide)]
      unfold f_X11_valley_26
      rw [if_pos rfl, e1, e2, i1]
      by_cases g2 : (rdS (gD_let d) N s).2 < N
      · rw [if_pos (by rw [ilt (by omega) (by omega)]; exact g2), p1_go f g g2]
        obtain ⟨q, m2, x, k1, k2⟩ := ih (rdS (gD_let d) N s).2 (a + 1) mm' m' q1 (by omega) (by omega)
        refine ⟨q, m2, x, k1, fun hh => ?_⟩
        rw [k2 hh]
        show nI (a + 1 + _) = nI (a + (_ + 1))
        rw [show a + 1 + (p1 (gD_let d) N f (rdS (gD_let d) N s).2).2 = a + ((p1 (gD_let d) N f (rdS (gD_let d) N s).2).2 + 1) by omega]
      · rw [if_neg (by rw [ilt (by omega) (by omega)]; exact g2), p1_end f g g2]
        exact ⟨_, m', _, rfl, fun _ => rfl⟩
/-- the second pass -/
theorem v62_end (d : DS) (x1 x2 : Int32) (mm : Nat) (h : ¬ x2 = -9) : f_X11_valley_62 (mm + 1) d x1 x2 = f_X11_valley_128 d x1 x2 := by
  show b_X11_valley_62 (f_X11_valley_62 mm) d x1 x2 = _
  unfold b_X11_valley_62
  rw [if_neg h]
theorem v62_fin {d : DS} {N : Nat} (hl : gD_letN d = nI N) (hN : N ≤ 96) (m : Nat → Int32) (x1 : Int32) (mm : Nat) : f_X11_valley_62 (mm + 1) (Sd d N m) x1 (-9) = f_X11_valley_128 (Sd d N m) x1 (-9) := by
  show b_X11_valley_62 (f_X11_valley_62 mm) (Sd d N m) x1 (-9) = _
  unfold b_X11_valley_62
  have e1 : gD_place (Sd d N m) = nI N := rfl
  have e2 : gD_letN (Sd d N m) = nI N := hl
  rw [if_pos rfl, e1, e2, if_pos (by rw [ile (by omega) (by omega)]; exact Nat.le_refl _)]
theorem te_fin {t : TS} {N : Nat} (hs : gT_size t = nI N) (hN : N ≤ 96) (v : VS) (x3 : Int32) (mm : Nat) : f_X7_tell_22 (mm + 1) (t, v) x3 (nI N) = some (x3, (t, v)) := by
  show b_X7_tell_22 (f_X7_tell_22 mm) (t, v) x3 (nI N) = _
  unfold b_X7_tell_22
  have e5 : gT_size (t, v).1 = nI N := hs
  rw [e5, if_pos (by rw [ile (by omega) (by omega)]; exact Nat.le_refl _)]
theorem pass2 {dd : DS} {t : TS} {N : Nat} (hN : N ≤ 96) (hl : gD_letN dd = nI N) (hc : ∀ i, i < N → ∃ c, c < 256 ∧ gD_let dd i = nI c) (hs : gT_size t = nI N) (hlet : ∀ i, i < N → gT_let t i = gD_let dd i) : ∀ f s a mx md n W v r m x1, s < N → N - s < f → N - s < mx → N - s + 2 < md → IV n W v → W ≤ 999 → RV v r → (s = 0 ∨ gT_let t (s - 1) = 59) → (p1 (gD_let dd) N f s).1 = none → (∃ v' r' q m' n' W', IV n' W' v' ∧ W' ≤ 999 ∧ RV v' r' ∧ f_X7_tell_22 mx (t, v) (nI a) (nI s) = some (nI (a + (p1 (gD_let dd) N f s).2), (t, v')) ∧ f_X11_valley_62 md (Sd (sD_s dd r) s m) x1 (-9) = f_X11_valley_128 (Sd (sD_s dd r') q m') x1 (-9)) ∨ (∃ v' r' q0 m' q, q ≤ 96 ∧ AnyV v' ∧ f_X7_tell_22 mx (t, v) (nI a) (nI s) = some ((-2000 : Int32) - nI q, (t, v')) ∧ f_X11_valley_62 md (Sd (sD_s dd r) s m) x1 (-9) = f_X11_valley_128 (Sd (sD_s dd (cpT (gD_was dd) r' 99)) q0 m') x1 ((-2000 : Int32) - nI q)) := by
  intro f
  induction f with
  | zero => intro s a mx md n W v r m x1 h1 h2; omega
  | succ f ih =>
    intro s a mx md n W v r m x1 h1 h2 h3 h4 hI hW hR hst hp
    obtain ⟨q1, q2, q3⟩ := rdS_end (gD_let dd) N s (by omega)
    have hB := rs_M (d := sD_s dd r) hN hl hc (show s ≤ N by omega) m
    cases g : (rdS (gD_let dd) N s).1 with
    | false => rw [p1_no f g] at hp; cases hp
    | true =>
      obtain ⟨m', e, hm'⟩ := hB.1 g
      obtain ⟨h5, h6, h7, h8⟩ := q3 g
      have h8k := shI_8 (gD_let dd s)
      have h9 := ln_6 (shI (gD_let dd s)) (by omega)
      have h9a := h9.2.2 h6
      have h9b := h9.1
      obtain ⟨ok, v', r', x1e, x2e, hres⟩ := ex_all (d := sD_s dd r) (t := t) hI hW hR hN hs hlet hc (show s ≤ N by omega) g hm'
      have x2e : f_X11_isDone (Sd (sD_s dd r) (rdS (gD_let dd) N s).2 m') (gD_let dd s) = some (ok, Sd (sD_s dd r') (rdS (gD_let dd) N s).2 m') := x2e
      have e : f_X11_readsStatement (Sd (sD_s dd r) s m) = some (1, Sd (sD_s dd r) (rdS (gD_let dd) N s).2 m') := e
      obtain ⟨mx', rfl⟩ : ∃ m', mx = m' + 1 := ⟨mx - 1, by omega⟩
      obtain ⟨md', rfl⟩ : ∃ m', md = m' + 1 := ⟨md - 1, by omega⟩
      have hst1 : f_X7_isStart (t, v).1 (nI s) = some 1 := by
        rcases hst with rfl | hst
        · unfold f_X7_isStart; rw [if_pos (show nI 0 = 0 from rfl)]
        · rcases Nat.eq_zero_or_pos s with h0 | h0
          · subst h0; unfold f_X7_isStart; rw [if_pos (show nI 0 = 0 from rfl)]
          · have := st_in (t := t) hN h5 h0
            rw [if_pos hst] at this
            exact this
      have c0 : f_X7_tell_22 (mx' + 1) (t, v) (nI a) (nI s) = if ok = 0 then some ((-2000 : Int32) - nI s, (t, v')) else f_X7_tell_22 mx' (t, v') (nI (a + 1)) (nI (s + 1)) := by
        show b_X7_tell_22 (f_X7_tell_22 mx') (t, v) (nI a) (nI s) = _
        unfold b_X7_tell_22
        have e5 : gT_size (t, v).1 = nI N := hs
        rw [e5, if_neg (by rw [ile (by omega) (by omega)]; omega), hst1, Option.bind_some, if_neg (show ¬ (1 : Int32) = 0 by decide), x1e, Option.bind_some, i1, i1]
      have d0 : f_X11_valley_62 (md' + 1) (Sd (sD_s dd r) s m) x1 (-9) = if ok = 0 then f_X11_valley_62 md' (Sd (sD_s dd (cpT (gD_was dd) r' 99)) (rdS (gD_let dd) N s).2 m') x1 ((-2000 : Int32) - nI s) else f_X11_valley_62 md' (Sd (sD_s dd r') (rdS (gD_let dd) N s).2 m') x1 (-9) := by
        show b_X11_valley_62 (f_X11_valley_62 md') (Sd (sD_s dd r) s m) x1 (-9) = _
        unfold b_X11_valley_62
        have e1 : gD_place (Sd (sD_s dd r) s m) = nI s := rfl
        have e2 : gD_letN (Sd (sD_s dd r) s m) = nI N := hl
        have e3 : f_X11_here (Sd (sD_s dd r) s m) = some (gD_let dd s) := by
          have := hr_M (d := sD_s dd r) hN hl (show s ≤ N by omega) m
          rw [if_pos h5] at this
          exact this
        have e4 : f_X11_copies (gD_was (Sd (sD_s dd r') (rdS (gD_let dd) N s).2 m'), gD_s (Sd (sD_s dd r') (rdS (gD_let dd) N s).2 m')) = some (gD_was dd, cpT (gD_was dd) r' 99) := copies_M _ _
        rw [if_pos rfl, e1, e2, if_neg (by rw [ile (by omega) (by omega)]; omega), e3, Option.bind_some, e, Option.bind_some, x2e, Option.bind_some, e4, Option.bind_some]
      rcases hres with ⟨rfl, n', W', hI', hW', hR'⟩ | ⟨rfl, hA⟩
      · rw [c0, d0, if_neg (show ¬ (1 : Int32) = 0 by decide), if_neg (show ¬ (1 : Int32) = 0 by decide)]
        have hk59 := ch59 (shI (gD_let dd s)) h8k h6
        have hin : ∀ q, s + 1 ≤ q → q < (rdS (gD_let dd) N s).2 → ¬ gT_let t (q - 1) = 59 := by
          intro q hq1 hq2
          have hj := h8 (q - 1 - s) (by omega)
          rw [show s + (q - 1 - s) = q - 1 by omega] at hj
          rw [hlet (q - 1) (by omega)]
          exact no59 hj (hk59.1 (q - 1 - s) (by omega) (by omega))
        rw [te_in hs hN q1 ((rdS (gD_let dd) N s).2 - (s + 1)) (s + 1) mx' (by omega) (by omega) (by omega) hin]
        have hlast : gT_let t ((rdS (gD_let dd) N s).2 - 1) = 59 := by
          have hj := h8 (lnS (shI (gD_let dd s)) - 1) (by omega)
          rw [hk59.2, fit59] at hj
          rw [hlet _ (by omega), show (rdS (gD_let dd) N s).2 - 1 = s + (lnS (shI (gD_let dd s)) - 1) by omega]
          exact of_decide_eq_true hj
        by_cases g2 : (rdS (gD_let dd) N s).2 < N
        · rw [p1_go f g g2] at hp ⊢
          have := ih (rdS (gD_let dd) N s).2 (a + 1) (mx' - ((rdS (gD_let dd) N s).2 - (s + 1))) md' n' W' v' r' m' x1 g2 (by omega) (by omega) (by omega) hI' hW' hR' (Or.inr hlast) hp
          rw [show a + 1 + (p1 (gD_let dd) N f (rdS (gD_let dd) N s).2).2 = a + ((p1 (gD_let dd) N f (rdS (gD_let dd) N s).2).2 + 1) by omega] at this
          exact this
        · left
          rw [p1_end f g g2]
          have eN : (rdS (gD_let dd) N s).2 = N := by omega
          rw [eN]
          obtain ⟨k1, hk1⟩ : ∃ k, mx' - (N - (s + 1)) = k + 1 := ⟨mx' - (N - (s + 1)) - 1, by omega⟩
          obtain ⟨k2, hk2⟩ : ∃ k, md' = k + 1 := ⟨md' - 1, by omega⟩
          rw [hk1, hk2, te_fin hs hN, v62_fin (d := sD_s dd r') hl hN]
          exact ⟨v', r', N, m', n', W', hI', hW', hR', rfl, rfl⟩
      · right
        obtain ⟨k2, hk2⟩ : ∃ k, md' = k + 1 := ⟨md' - 1, by omega⟩
        rw [c0, d0, if_pos rfl, if_pos rfl, hk2, v62_end _ _ _ _ (w1000 s (by omega)).2.1]
        exact ⟨v', r', _, m', s, by omega, hA, rfl, rfl⟩
theorem p1_pos (t : Nat → Int32) (N : Nat) : ∀ f s, (p1 t N f s).1 = none → 1 ≤ (p1 t N f s).2 ∧ (p1 t N f s).2 ≤ f := by
  intro f
  induction f with
  | zero => intro s h; cases h
  | succ f ih =>
    intro s h
    cases g : (rdS t N s).1 with
    | false => rw [p1_no f g] at h; cases h
    | true =>
      by_cases g2 : (rdS t N s).2 < N
      · rw [p1_go f g g2] at h ⊢
        have := ih _ h
        refine ⟨by show 1 ≤ _ + 1; omega, by show _ + 1 ≤ f + 1; omega⟩
      · rw [p1_end f g g2]
        exact ⟨Nat.le_refl _, by show 1 ≤ f + 1; omega⟩
