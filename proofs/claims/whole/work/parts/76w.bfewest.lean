/-! the fewest times of speaking that keep one -/
abbrev wf (u : VS) (n p a : Nat) : Prop := ¬ a = p ∧ a < n ∧ ¬ gV_here u a = 0
def dg (c i : Nat) : Nat := c / 8 ^ i % 8
theorem dg8 (c i : Nat) : dg c i < 8 := Nat.mod_lt _ (by decide)
def tkC (u : VS) (p c : Nat) : Nat → VS
  | 0 => u
  | i + 1 => tlk (tkC u p c i) p (dg c i)
theorem IV_tkC {n W : Nat} {u : VS} (h : IV n W u) {p : Nat} (hp : p < 8) (c : Nat) : ∀ i, IV n W (tkC u p c i) := by
  intro i
  induction i with
  | zero => exact h
  | succ i ih => exact IV_tlk ih hp (dg8 c i)
abbrev Kpt (u : VS) (n p w t c : Nat) : Prop := ¬ gV_here (wks (tkC u p c t) n w) p = 0
abbrev Lst (u : VS) (n p t c : Nat) : Prop := ∀ i, i < t → wf u n p (dg c i)
abbrev Asc (t c : Nat) : Prop := ∀ i, i + 1 < t → dg c i ≤ dg c (i + 1)
theorem li_k : ∀ i, i < 3 → ∀ c, c < 512 → ((nI c >>> (((3 : Int32) * nI i) &&& 31)) &&& (7 : Int32)) = nI (dg c i) := by decide +kernel
theorem sh3 : ∀ t, t < 4 → (1 : Int32) <<< (((3 : Int32) * nI t) &&& 31) = nI (8 ^ t) := by decide +kernel
theorem dv8 : ∀ m, m < 512 → nI m / (8 : Int32) = nI (m / 8) := by decide +kernel
theorem md8 : ∀ m, m < 512 → nI m - nI m / (8 : Int32) * (8 : Int32) = nI (m % 8) := by decide +kernel
theorem pw8 : ∀ t, t < 4 → 8 ^ t ≤ 512 ∧ 1 ≤ 8 ^ t := by decide
theorem isa_X {u : VS} {n W p : Nat} (hI : IV n W u) (hp : p < 8) : f_X8_isHere u (nI p) = some (if p < n ∧ ¬ gV_here u p = 0 then 1 else 0) := by
  have hn := hI.n8
  by_cases g : p < n
  · rw [ish_X hI g]
    rcases hI.he hp with e | e <;> rw [e] <;> simp [g]
  · unfold f_X8_isHere
    rw [has_X0 hI (Or.inr (by rw [ile (by omega) (by omega)]; omega)), Option.bind_some, if_pos rfl, if_neg (fun k => g k.1)]
theorem at_any {u : VS} {n W p q : Nat} (hI : IV n W u) (hp : p < n) (hq : q < 8) (h1 : ¬ gV_here u p = 0) : f_X8_areTwoHere u (nI p) (nI q) = some (if wf u n p q then 1 else 0) := by
  have hn := hI.n8
  unfold f_X8_areTwoHere
  rw [isa_X hI (show p < 8 by omega), isa_X hI hq, if_pos (show p < n ∧ ¬ gV_here u p = 0 from ⟨hp, h1⟩)]
  simp (disch := omega) only [ieq, Option.bind_some]
  rw [if_neg (show ¬ (1 : Int32) = 0 by decide)]
  by_cases e : p = q
  · rw [if_pos e, if_neg (fun k => k.1 e.symm)]
  · rw [if_neg e]
    by_cases g : q < n ∧ ¬ gV_here u q = 0
    · rw [if_pos g, if_neg (by decide), if_pos ⟨fun k => e k.symm, g.1, g.2⟩]
    · rw [if_neg g, if_pos rfl, if_neg (fun k => g ⟨k.2.1, k.2.2⟩)]
theorem al_X {u : MS} {n W p t c : Nat} (hI : IV n W (gM_now u)) (hp : p < n) (h1 : ¬ gV_here (gM_now u) p = 0) (ht : t ≤ 3) (hc : c < 512) : ∃ v, f_X3_areListeners u (nI p) (nI t) (nI c) = some v ∧ (v = 0 ↔ ¬ (Lst (gM_now u) n p t c ∧ Asc t c)) := by
  have hn := hI.n8
  unfold f_X3_areListeners f_X3_areListeners_6
  refine lq2_inv (fun i a b => a = nI (if i = 0 then 0 else dg c (i - 1)) ∧ b = nI i ∧ Lst (gM_now u) n p i c ∧ Asc i c) (fun o => ∃ v, o = some v ∧ (v = 0 ↔ ¬ (Lst (gM_now u) n p t c ∧ Asc t c))) t ?_ smN _ _ (smN_gt (by omega)) ⟨rfl, rfl, fun i h => by omega, fun i h => by omega⟩
  rintro i a b hi ⟨rfl, rfl, hL, hA⟩
  unfold b_X3_areListeners_6
  have d1 := dg8 c i
  have d2 := dg8 c (i - 1)
  rcases Nat.lt_or_ge i t with h | h
  · have e1 : f_X3_listenerAt (nI c) (nI i) = some (nI (dg c i)) := by
      unfold f_X3_listenerAt; rw [li_k i (by omega) c hc]
    rw [e1]
    by_cases g : dg c i < (if i = 0 then 0 else dg c (i - 1))
    · right
      refine ⟨_, ⟨0, rfl, ?_⟩, fun k => ?_⟩
      · refine ⟨fun _ k => ?_, fun _ => rfl⟩
        have hi0 : ¬ i = 0 := by intro e; rw [if_pos e] at g; omega
        rw [if_neg hi0] at g
        have := k.2 (i - 1) (by omega)
        rw [show i - 1 + 1 = i by omega] at this
        omega
      · have hb : (if i = 0 then 0 else dg c (i - 1)) < 8 := by split <;> omega
        simp (disch := omega) only [ile, ilt, Option.bind_some]
        rw [if_neg (by omega), if_pos g]
    · by_cases g2 : wf (gM_now u) n p (dg c i)
      · left
        refine ⟨nI (dg c i), nI (i + 1), h, ⟨by rw [if_neg (by omega), show i + 1 - 1 = i by omega], rfl, fun j hj => ?_, fun j hj => ?_⟩, fun k => ?_⟩
        · rcases Nat.lt_or_ge j i with k | k
          · exact hL j k
          · rw [show j = i by omega]; exact g2
        · rcases Nat.lt_or_ge (j + 1) i with k | k
          · exact hA j k
          · have hj' : j = i - 1 := by omega
            rw [if_neg (show ¬ i = 0 by omega)] at g
            rw [hj', show i - 1 + 1 = i by omega]; omega
        · have hb : (if i = 0 then 0 else dg c (i - 1)) < 8 := by split <;> omega
          rw [Option.bind_some, at_any hI hp d1 h1, if_pos g2, Option.bind_some, if_neg (show ¬ (1 : Int32) = 0 by decide)]
          simp (disch := omega) only [ile, ilt, i1]
          rw [if_neg (by omega), if_neg g]
      · right
        refine ⟨_, ⟨0, rfl, ?_⟩, fun k => ?_⟩
        · exact ⟨fun _ k => g2 (k.1 i h), fun _ => rfl⟩
        · have hb : (if i = 0 then 0 else dg c (i - 1)) < 8 := by split <;> omega
          rw [Option.bind_some, at_any hI hp d1 h1, if_neg g2, Option.bind_some, if_pos rfl]
          simp (disch := omega) only [ile, ilt, i1]
          rw [if_neg (by omega), if_neg g]
  · right
    obtain rfl : i = t := by omega
    refine ⟨_, ⟨1, rfl, ?_⟩, fun k => ?_⟩
    · exact ⟨fun e => absurd e (by decide), fun e => absurd ⟨hL, hA⟩ e⟩
    · simp (disch := omega) only [ile]
      rw [if_pos (Nat.le_refl _)]
theorem zr01 {α : Type} {y : Int32} (h : y = 0 ∨ y = 1) (x : Option α) : zr y x = x := by unfold zr; rw [if_pos h]
theorem kp_X {u : VS} {n W p k : Nat} (hI : IV n W u) (hW : W < 2 ^ 20) (hp : p < 8) (hk : k ≤ 100) : ∃ v w, f_X8_keeps u (nI p) (nI k) = some (v, w) ∧ AnyV w ∧ (v = 0 ∨ v = 1) ∧ (v = 0 ↔ gV_here (wks u n k) p = 0) := by
  have hn := hI.n8
  unfold f_X8_keeps f_X8_keeps_2
  refine lq2_inv (fun i a b => a = wks u n i ∧ b = nI i) (fun o => ∃ v w, o = some (v, w) ∧ AnyV w ∧ (v = 0 ∨ v = 1) ∧ (v = 0 ↔ gV_here (wks u n k) p = 0)) k ?_ smN _ _ (smN_gt (by omega)) ⟨rfl, rfl⟩
  rintro i a b hi ⟨rfl, rfl⟩
  unfold b_X8_keeps_2
  have hIw := IV_wks hI i
  simp (disch := omega) only [ile, i1, ck_ok, icl, zr01 (hIw.he hp)]
  rcases Nat.lt_or_ge i k with h | h
  · by_cases g : gV_here (wks u n i) p = 0
    · right
      refine ⟨_, ⟨_, _, rfl, hIw.any, hIw.he hp, ?_⟩, fun kk => ?_⟩
      · have := wks_gone g (k - i)
        rw [show i + (k - i) = k by omega] at this
        exact ⟨fun _ => this, fun _ => g⟩
      · rw [if_neg (by omega), if_pos g]
    · left
      refine ⟨wks u n (i + 1), nI (i + 1), h, ⟨rfl, rfl⟩, fun kk => ?_⟩
      rw [wk_X hIw (by omega), Option.bind_some, if_neg (by omega), if_neg g]
      rfl
  · right
    obtain rfl : i = k := by omega
    refine ⟨_, ⟨_, _, rfl, hIw.any, hIw.he hp, Iff.rfl⟩, fun kk => ?_⟩
    rw [if_pos (Nat.le_refl _)]
theorem ik_X {u : MS} {n W p k t c : Nat} (hI : IV n W (gM_now u)) (hW : W < 2 ^ 20) (ha : AnyV (gM_then u)) (hp : p < 8) (hk : k ≤ 100) (ht : t ≤ 3) (hc : c < 512) : ∃ v w, f_X3_isKeptBy u (nI p) (nI k) (nI t) (nI c) = some (v, sM_then u w) ∧ AnyV w ∧ (v = 0 ↔ ¬ Kpt (gM_now u) n p k t c) := by
  unfold f_X3_isKeptBy f_X3_isKeptBy_7
  rw [sa_X hI ha, Option.bind_some]
  refine lq2_inv (fun i a b => a = sM_then u (tkC (gM_now u) p c i) ∧ b = nI i) (fun o => ∃ v w, o = some (v, sM_then u w) ∧ AnyV w ∧ (v = 0 ↔ ¬ Kpt (gM_now u) n p k t c)) t ?_ smN _ _ (smN_gt (by omega)) ⟨rfl, rfl⟩
  rintro i a b hi ⟨rfl, rfl⟩
  unfold b_X3_isKeptBy_7
  have hIw := IV_tkC hI hp c i
  simp (disch := omega) only [ile, i1]
  rcases Nat.lt_or_ge i t with h | h
  · left
    have e1 : f_X3_listenerAt (nI c) (nI i) = some (nI (dg c i)) := by
      unfold f_X3_listenerAt; rw [li_k i (by omega) c hc]
    have e2 : f_X8_talk (gM_then (sM_then u (tkC (gM_now u) p c i))) (nI p) (nI (dg c i)) = some (tkC (gM_now u) p c (i + 1)) := tlk_X _ hp (dg8 c i)
    refine ⟨sM_then u (tkC (gM_now u) p c (i + 1)), nI (i + 1), h, ⟨rfl, rfl⟩, fun kk => ?_⟩
    rw [if_neg (by omega), e1, Option.bind_some, e2, Option.bind_some]
  · right
    obtain rfl : i = t := by omega
    obtain ⟨v, w, e1, e2, e3, e4⟩ := kp_X hIw hW hp hk
    have e1 : f_X8_keeps (gM_then (sM_then u (tkC (gM_now u) p c i))) (nI p) (nI k) = some (v, w) := e1
    refine ⟨_, ⟨v, w, rfl, e2, by rw [e4, Classical.not_not]⟩, fun kk => ?_⟩
    rw [if_pos (Nat.le_refl _), e1, Option.bind_some, zr01 e3]
theorem hb_by {d : DS} {u : VS} {n W p k t c : Nat} (hI : IV n W u) (hR : RV u (gD_s d)) (hp : p < 8) (hk : k ≤ 100) (ht : t ≤ 3) (hc : c < 512) : ∃ v r, f_X11_isHereBy d (nI p) (nI t) (nI c) (nI k) = some (v, sD_m d r) ∧ (v = 0 ↔ ¬ (Lst u n p t c ∧ Kpt u n p k t c)) := by
  have hn := hI.n8
  unfold f_X11_isHereBy f_X11_isHereBy_17
  rw [copies_M, Option.bind_some]
  refine lq3_inv (fun i a b e => (∃ r, RV (tkC u p c i) r ∧ a = sD_m d r) ∧ b = nI (c / 8 ^ i) ∧ e = nI i ∧ Lst u n p i c) (fun o => ∃ v r, o = some (v, sD_m d r) ∧ (v = 0 ↔ ¬ (Lst u n p t c ∧ Kpt u n p k t c))) t ?_ smN _ _ _ (smN_gt (by omega)) ⟨⟨_, RV_cp (gD_m d) hR, rfl⟩, by simp, rfl, fun i h => by omega⟩
  rintro i a b e hi ⟨⟨r, h1, rfl⟩, rfl, rfl, hL⟩
  unfold b_X11_isHereBy_17
  have hIw := IV_tkC hI hp c i
  have hd : c / 8 ^ i < 512 := Nat.lt_of_le_of_lt (Nat.div_le_self _ _) hc
  have hq := dg8 c i
  have e1 : nI (c / 8 ^ i) - nI (c / 8 ^ i) / (8 : Int32) * (8 : Int32) = nI (dg c i) := md8 _ hd
  have e2 : nI (c / 8 ^ i) / (8 : Int32) = nI (c / 8 ^ (i + 1)) := by rw [dv8 _ hd, Nat.div_div_eq_div_mul, Nat.pow_succ]
  have e3 : gD_s (sD_m d r) 0 = nI n := hR.pe.trans hI.pe
  rw [e1, e2]
  simp (disch := omega) only [ile, ieq, i1, ck0, cl0, e3]
  rcases Nat.lt_or_ge i t with h | h
  · have e4 : f_X11_isHere (gD_s (sD_m d r)) (nI (dg c i)) = some (gV_here u (dg c i)) := here_M hI hR hq
    by_cases g1 : dg c i = p
    · right
      refine ⟨_, ⟨0, r, rfl, ⟨fun _ k => (k.1 i h).1 g1, fun _ => rfl⟩⟩, fun kk => ?_⟩
      rw [if_neg (by omega), if_pos g1]
    by_cases g2 : n ≤ dg c i
    · right
      refine ⟨_, ⟨0, r, rfl, ⟨fun _ k => absurd (k.1 i h).2.1 (by omega), fun _ => rfl⟩⟩, fun kk => ?_⟩
      rw [if_neg (by omega), if_neg g1, if_pos g2]
    by_cases g3 : gV_here u (dg c i) = 0
    · right
      refine ⟨_, ⟨0, r, rfl, ⟨fun _ k => (k.1 i h).2.2 g3, fun _ => rfl⟩⟩, fun kk => ?_⟩
      rw [if_neg (by omega), if_neg g1, if_neg g2, e4, Option.bind_some, if_pos g3]
    · left
      obtain ⟨r', g4, g5⟩ := tlk_M h1 hp hq
      have e5 : f_X11_speaksIn (gD_m (sD_m d r)) (nI p) (nI (dg c i)) = some r' := g5
      refine ⟨sD_m d r', nI (c / 8 ^ (i + 1)), nI (i + 1), h, ⟨⟨r', g4, rfl⟩, rfl, rfl, fun j hj => ?_⟩, fun kk => ?_⟩
      · rcases Nat.lt_or_ge j i with k | k
        · exact hL j k
        · rw [show j = i by omega]; exact ⟨g1, by omega, g3⟩
      · rw [if_neg (by omega), if_neg g1, if_neg g2, e4, Option.bind_some, if_neg g3, e5, Option.bind_some]
  · right
    obtain rfl : i = t := by omega
    obtain ⟨r', g4, g5⟩ := wks_M hIw h1 hk
    have e5 : f_X11_weeksOn (gD_m (sD_m d r)) (nI k) = some r' := g5
    have e6 : f_X11_isHere (gD_m (sD_m (sD_m d r) r')) (nI p) = some (gV_here (wks (tkC u p c i) n k) p) := here_M (IV_wks hIw k) g4 hp
    refine ⟨_, ⟨gV_here (wks (tkC u p c i) n k) p, r', rfl, ?_⟩, fun kk => ?_⟩
    · constructor
      · intro e k; exact k.2 e
      · intro e
        rcases Classical.em (gV_here (wks (tkC u p c i) n k) p = 0) with q | q
        · exact q
        · exact absurd ⟨hL, q⟩ e
    · rw [if_pos (Nat.le_refl _), e5, Option.bind_some, e6, Option.bind_some, zr01 ((IV_wks hIw k).he hp)]
