/-! the fewest times: both searches -/
abbrev Ans (Q : Nat → Prop) (v : Int32) : Prop := (∃ t, t ≤ 3 ∧ v = nI t ∧ Q t ∧ ∀ t', t' < t → ¬ Q t') ∨ (v = -9 ∧ ∀ t, t ≤ 3 → ¬ Q t)
theorem Ans_eq {Q Q' : Nat → Prop} {v v' : Int32} (hq : ∀ t, t ≤ 3 → (Q t ↔ Q' t)) (h : Ans Q v) (h' : Ans Q' v') : v = v' := by
  rcases h with ⟨t, h1, rfl, h2, h3⟩ | ⟨rfl, h1⟩
  · rcases h' with ⟨t', g1, rfl, g2, g3⟩ | ⟨rfl, g1⟩
    · rcases Nat.lt_trichotomy t t' with k | k | k
      · exact absurd ((hq t h1).mp h2) (g3 t k)
      · rw [k]
      · exact absurd ((hq t' g1).mpr g2) (h3 t' k)
    · exact absurd ((hq t h1).mp h2) (g1 t h1)
  · rcases h' with ⟨t', g1, rfl, g2, g3⟩ | ⟨rfl, g1⟩
    · exact absurd ((hq t' g1).mpr g2) (h1 t' g1)
    · rfl
abbrev Qx (u : VS) (n p k t : Nat) : Prop := ∃ c, c < 8 ^ t ∧ (Lst u n p t c ∧ Asc t c) ∧ Kpt u n p k t c
abbrev Qd (u : VS) (n p k t : Nat) : Prop := ∃ c, c < 8 ^ t ∧ (Lst u n p t c ∧ Kpt u n p k t c)
theorem ft10_X {u : MS} {n W p k t : Nat} (hI : IV n W (gM_now u)) (hW : W < 2 ^ 20) (ha : AnyV (gM_then u)) (hp : p < n) (h1 : ¬ gV_here (gM_now u) p = 0) (hk : k ≤ 100) (ht : t ≤ 3) (k2 : MS → Int32 → Option (Int32 × MS)) : ∃ w, AnyV w ∧ ((Qx (gM_now u) n p k t ∧ f_X3_fewestTimes_10 (nI p) (nI k) k2 smN u (nI t) 0 = some (nI t, sM_then u w)) ∨ (¬ Qx (gM_now u) n p k t ∧ f_X3_fewestTimes_10 (nI p) (nI k) k2 smN u (nI t) 0 = k2 (sM_then u w) (nI (t + 1)))) := by
  have hn := hI.n8
  have h8 := pw8 t (by omega)
  unfold f_X3_fewestTimes_10
  refine lq3_inv (fun i a b e => (∃ w, AnyV w ∧ a = sM_then u w) ∧ b = nI t ∧ e = nI i ∧ ∀ c, c < i → ¬ ((Lst (gM_now u) n p t c ∧ Asc t c) ∧ Kpt (gM_now u) n p k t c)) (fun o => ∃ w, AnyV w ∧ ((Qx (gM_now u) n p k t ∧ o = some (nI t, sM_then u w)) ∨ (¬ Qx (gM_now u) n p k t ∧ o = k2 (sM_then u w) (nI (t + 1))))) (8 ^ t) ?_ smN _ _ _ (smN_gt (by omega)) ⟨⟨gM_then u, ha, rfl⟩, rfl, rfl, fun c h => by omega⟩
  rintro i a b e hi ⟨⟨w, hw, rfl⟩, rfl, rfl, hN⟩
  unfold b_X3_fewestTimes_10
  rw [sh3 t (by omega)]
  simp (disch := omega) only [ile, i1]
  rcases Nat.lt_or_ge i (8 ^ t) with h | h
  · obtain ⟨v, e1, e2⟩ := al_X (u := sM_then u w) (n := n) (W := W) (p := p) (t := t) (c := i) hI hp h1 ht (by omega)
    by_cases g1 : v = 0
    · left
      refine ⟨sM_then u w, nI t, nI (i + 1), h, ⟨⟨w, hw, rfl⟩, rfl, rfl, fun c hc => ?_⟩, fun kk => ?_⟩
      · rcases Nat.lt_or_ge c i with q | q
        · exact hN c q
        · rw [show c = i by omega]
          exact fun q => e2.mp g1 q.1
      · rw [if_neg (by omega), e1, Option.bind_some, if_pos g1]
    · obtain ⟨v2, w2, e3, e4, e5⟩ := ik_X (u := sM_then u w) (n := n) (W := W) (p := p) (k := k) (t := t) (c := i) hI hW hw (by omega) hk ht (by omega)
      have hL : Lst (gM_now u) n p t i ∧ Asc t i := by
        rcases Classical.em (Lst (gM_now u) n p t i ∧ Asc t i) with q | q
        · exact q
        · exact absurd (e2.mpr q) g1
      by_cases g2 : v2 = 0
      · left
        refine ⟨sM_then u w2, nI t, nI (i + 1), h, ⟨⟨w2, e4, rfl⟩, rfl, rfl, fun c hc => ?_⟩, fun kk => ?_⟩
        · rcases Nat.lt_or_ge c i with q | q
          · exact hN c q
          · rw [show c = i by omega]
            exact fun q => e5.mp g2 q.2
        · rw [if_neg (by omega), e1, Option.bind_some, if_neg g1, e3, Option.bind_some, if_pos g2]
          try rfl
      · right
        have hK : Kpt (gM_now u) n p k t i := by
          rcases Classical.em (Kpt (gM_now u) n p k t i) with q | q
          · exact q
          · exact absurd (e5.mpr q) g2
        refine ⟨_, ⟨w2, e4, Or.inl ⟨⟨i, h, hL, hK⟩, rfl⟩⟩, fun kk => ?_⟩
        rw [if_neg (by omega), e1, Option.bind_some, if_neg g1, e3, Option.bind_some, if_neg g2]
        try rfl
  · right
    refine ⟨_, ⟨w, hw, Or.inr ⟨fun ⟨c, h2, h3⟩ => hN c (by omega) h3, rfl⟩⟩, fun kk => ?_⟩
    rw [if_pos h]
theorem ft_X {u : MS} {n W p k : Nat} (hI : IV n W (gM_now u)) (hW : W < 2 ^ 20) (ha : AnyV (gM_then u)) (hp : p < n) (h1 : ¬ gV_here (gM_now u) p = 0) (hk : k ≤ 100) : ∃ v w, f_X3_fewestTimes u (nI p) (nI k) = some (v, sM_then u w) ∧ AnyV w ∧ Ans (Qx (gM_now u) n p k) v := by
  unfold f_X3_fewestTimes f_X3_fewestTimes_2
  refine lq2_inw (fun i a b => (∃ w, AnyV w ∧ a = sM_then u w) ∧ b = nI i ∧ ∀ t, t < i → ¬ Qx (gM_now u) n p k t) (fun o => ∃ v w, o = some (v, sM_then u w) ∧ AnyV w ∧ Ans (Qx (gM_now u) n p k) v) 4 ?_ smN _ _ (smN_gt (by omega)) ⟨⟨gM_then u, ha, rfl⟩, rfl, fun t h => by omega⟩
  rintro i a b kk hi ⟨⟨w, hw, rfl⟩, rfl, hN⟩
  unfold b_X3_fewestTimes_2
  simp (disch := omega) only [l3, ilt]
  rcases Nat.lt_or_ge 3 i with h | h
  · right
    rw [if_pos h]
    exact ⟨-9, w, rfl, hw, Or.inr ⟨rfl, fun t ht => hN t (by omega)⟩⟩
  · rw [if_neg (by omega)]
    obtain ⟨w2, hw2, ⟨hq, e⟩ | ⟨hq, e⟩⟩ := ft10_X (u := sM_then u w) (k := k) (t := i) hI hW hw hp h1 hk h kk
    · right
      exact ⟨nI i, w2, e, hw2, Or.inl ⟨i, h, rfl, hq, hN⟩⟩
    · left
      refine ⟨sM_then u w2, nI (i + 1), by omega, ⟨⟨w2, hw2, rfl⟩, rfl, fun t ht => ?_⟩, e⟩
      rcases Nat.lt_or_ge t i with q | q
      · exact hN t q
      · rw [show t = i by omega]; exact hq
theorem ft63_M {d : DS} {u : VS} {n W p k t : Nat} (hI : IV n W u) (hR : RV u (gD_s d)) (hp : p < 8) (hk : k ≤ 100) (ht : t ≤ 3) (k54 : DS → Int32 → Int32 → Option (Int32 × DS)) : ∃ r, ((Qd u n p k t ∧ f_X11_fewest_63 (nI p) (nI k) k54 smN d (nI (8 ^ t)) (nI t) 0 = some (nI t, sD_m d r)) ∨ (¬ Qd u n p k t ∧ f_X11_fewest_63 (nI p) (nI k) k54 smN d (nI (8 ^ t)) (nI t) 0 = k54 (sD_m d r) (nI (8 ^ (t + 1))) (nI (t + 1)))) := by
  have h8 := pw8 t (by omega)
  unfold f_X11_fewest_63
  refine lq4_inv (fun i a b e f => (∃ r, a = sD_m d r) ∧ b = nI (8 ^ t) ∧ e = nI t ∧ f = nI i ∧ ∀ c, c < i → ¬ (Lst u n p t c ∧ Kpt u n p k t c)) (fun o => ∃ r, ((Qd u n p k t ∧ o = some (nI t, sD_m d r)) ∨ (¬ Qd u n p k t ∧ o = k54 (sD_m d r) (nI (8 ^ (t + 1))) (nI (t + 1))))) (8 ^ t) ?_ smN _ _ _ _ (smN_gt (by omega)) ⟨⟨gD_m d, rfl⟩, rfl, rfl, rfl, fun c h => by omega⟩
  rintro i a b e f hi ⟨⟨r, rfl⟩, rfl, rfl, rfl, hN⟩
  unfold b_X11_fewest_63
  simp (disch := omega) only [ile, i1]
  rcases Nat.lt_or_ge i (8 ^ t) with h | h
  · obtain ⟨v, r2, e1, e2⟩ := hb_by (d := sD_m d r) (u := u) (n := n) (W := W) (p := p) (k := k) (t := t) (c := i) hI hR hp hk ht (by omega)
    by_cases g1 : v = 0
    · left
      refine ⟨sD_m d r2, nI (8 ^ t), nI t, nI (i + 1), h, ⟨⟨r2, rfl⟩, rfl, rfl, rfl, fun c hc => ?_⟩, fun kk => ?_⟩
      · rcases Nat.lt_or_ge c i with q | q
        · exact hN c q
        · rw [show c = i by omega]
          exact e2.mp g1
      · rw [if_neg (by omega), e1, Option.bind_some, if_pos g1]
        try rfl
    · right
      have hK : Lst u n p t i ∧ Kpt u n p k t i := by
        rcases Classical.em (Lst u n p t i ∧ Kpt u n p k t i) with q | q
        · exact q
        · exact absurd (e2.mpr q) g1
      refine ⟨_, ⟨r2, Or.inl ⟨⟨i, h, hK⟩, rfl⟩⟩, fun kk => ?_⟩
      rw [if_neg (by omega), e1, Option.bind_some, if_neg g1]
      try rfl
  · right
    refine ⟨_, ⟨r, Or.inr ⟨fun ⟨c, h2, h3⟩ => hN c (by omega) h3, rfl⟩⟩, fun kk => ?_⟩
    rw [if_pos h, l8, pk_mul, Nat.pow_succ]
theorem ft_M {d : DS} {u : VS} {n W p k : Nat} (hI : IV n W u) (hR : RV u (gD_s d)) (hp : p < 8) (hk : k ≤ 100) : ∃ v r, f_X11_fewest_54 (nI p) (nI k) smN d 1 0 = some (v, sD_m d r) ∧ Ans (Qd u n p k) v := by
  unfold f_X11_fewest_54
  refine lq3_inw (fun i a b e => (∃ r, a = sD_m d r) ∧ b = nI (8 ^ i) ∧ e = nI i ∧ ∀ t, t < i → ¬ Qd u n p k t) (fun o => ∃ v r, o = some (v, sD_m d r) ∧ Ans (Qd u n p k) v) 4 ?_ smN _ _ _ (smN_gt (by omega)) ⟨⟨gD_m d, rfl⟩, rfl, rfl, fun t h => by omega⟩
  rintro i a b e kk hi ⟨⟨r, rfl⟩, rfl, rfl, hN⟩
  unfold b_X11_fewest_54
  simp (disch := omega) only [l3, ilt]
  rcases Nat.lt_or_ge 3 i with h | h
  · right
    rw [if_pos h]
    exact ⟨-9, r, rfl, Or.inr ⟨rfl, fun t ht => hN t (by omega)⟩⟩
  · rw [if_neg (by omega)]
    obtain ⟨r2, ⟨hq, e⟩ | ⟨hq, e⟩⟩ := ft63_M (d := sD_m d r) (k := k) (t := i) hI hR hp hk h kk
    · right
      exact ⟨nI i, r2, e, Or.inl ⟨i, h, rfl, hq, hN⟩⟩
    · left
      refine ⟨sD_m d r2, nI (8 ^ (i + 1)), nI (i + 1), by omega, ⟨⟨r2, rfl⟩, rfl, rfl, fun t ht => ?_⟩, e⟩
      rcases Nat.lt_or_ge t i with q | q
      · exact hN t q
      · rw [show t = i by omega]; exact hq
/-- the order of speaking is nothing -/
theorem upd_comm {f : Nat → Int32} {i j : Nat} {x y : Int32} (h : i ≠ j) : upd (upd f i x) j y = upd (upd f j y) i x := by
  funext k
  by_cases e1 : k = i
  · subst e1; rw [us, un h, us]
  · rw [un e1]
    by_cases e2 : k = j
    · subst e2; rw [us, us]
    · rw [un e2, un e2, un e1]
theorem addm_comm (u : VS) {a b c d : Nat} (v : Int32) (h : 8 * a + b ≠ 8 * c + d) : addm (addm u a b v) c d v = addm (addm u c d v) a b v := by
  have e1 : gV_mem (addm u a b v) (8 * c + d) = gV_mem u (8 * c + d) := un h.symm
  have e2 : gV_mem (addm u c d v) (8 * a + b) = gV_mem u (8 * a + b) := un h
  show sV_mem u (upd (gV_mem (addm u a b v)) (8 * c + d) (hold (gV_mem (addm u a b v) (8 * c + d) + v))) = sV_mem u (upd (gV_mem (addm u c d v)) (8 * a + b) (hold (gV_mem (addm u c d v) (8 * a + b) + v)))
  rw [e1, e2]
  show sV_mem u (upd (upd (gV_mem u) (8 * a + b) _) (8 * c + d) _) = sV_mem u (upd (upd (gV_mem u) (8 * c + d) _) (8 * a + b) _)
  rw [upd_comm h]
theorem tlk_comm (u : VS) {p a b : Nat} (hp : p < 8) (ha : a < 8) (hb : b < 8) (h1 : a ≠ p) (h2 : b ≠ p) : tlk (tlk u p a) p b = tlk (tlk u p b) p a := by
  by_cases e : a = b
  · rw [e]
  · unfold tlk
    rw [addm_comm (addm u p a 10) (a := a) (b := p) (c := p) (d := b) 10 (by omega), addm_comm u (a := p) (b := a) (c := p) (d := b) 10 (by omega), addm_comm (addm (addm u p b 10) p a 10) (a := a) (b := p) (c := b) (d := p) 10 (by omega), addm_comm (addm u p b 10) (a := p) (b := a) (c := b) (d := p) 10 (by omega)]
theorem Q_eq (u : VS) {n p k : Nat} (hp : p < 8) : ∀ t, t ≤ 3 → (Qx u n p k t ↔ Qd u n p k t) := by
  intro t ht
  constructor
  · rintro ⟨c, h1, ⟨h2, -⟩, h3⟩
    exact ⟨c, h1, h2, h3⟩
  · rintro ⟨c, h1, h2, h3⟩
    rcases Nat.lt_or_ge t 2 with h | h
    · exact ⟨c, h1, ⟨h2, fun i hi => by omega⟩, h3⟩
    rcases Nat.lt_or_ge t 3 with g | g
    · obtain rfl : t = 2 := by omega
      have f0 := h2 0 (by omega)
      have f1 := h2 1 (by omega)
      have b0 := dg8 c 0
      have b1 := dg8 c 1
      have h3 : ¬ gV_here (wks (tlk (tlk u p (dg c 0)) p (dg c 1)) n k) p = 0 := h3
      generalize dg c 0 = x at f0 b0 h3
      generalize dg c 1 = y at f1 b1 h3
      have fin : ∀ x y : Nat, x < 8 → y < 8 → wf u n p x → wf u n p y → x ≤ y → ¬ gV_here (wks (tlk (tlk u p x) p y) n k) p = 0 → Qx u n p k 2 := by
        intro x y hx hy gx gy hxy hk
        have d0 : dg (x + 8 * y) 0 = x := by unfold dg; omega
        have d1 : dg (x + 8 * y) 1 = y := by unfold dg; omega
        refine ⟨x + 8 * y, by omega, ⟨fun i hi => ?_, fun i hi => ?_⟩, ?_⟩
        · rcases (show i = 0 ∨ i = 1 by omega) with rfl | rfl
          · rw [d0]; exact gx
          · rw [d1]; exact gy
        · obtain rfl : i = 0 := by omega
          rw [d0, d1]; exact hxy
        · show ¬ gV_here (wks (tlk (tlk u p (dg (x + 8 * y) 0)) p (dg (x + 8 * y) 1)) n k) p = 0
          rw [d0, d1]; exact hk
      rcases Nat.le_total x y with q | q
      · exact fin x y b0 b1 f0 f1 q h3
      · rw [tlk_comm u hp b0 b1 f0.1 f1.1] at h3
        exact fin y x b1 b0 f1 f0 q h3
    · obtain rfl : t = 3 := by omega
      have f0 := h2 0 (by omega)
      have f1 := h2 1 (by omega)
      have f2 := h2 2 (by omega)
      have b0 := dg8 c 0
      have b1 := dg8 c 1
      have b2 := dg8 c 2
      have h3 : ¬ gV_here (wks (tlk (tlk (tlk u p (dg c 0)) p (dg c 1)) p (dg c 2)) n k) p = 0 := h3
      generalize dg c 0 = x at f0 b0 h3
      generalize dg c 1 = y at f1 b1 h3
      generalize dg c 2 = z at f2 b2 h3
      have fin : ∀ x y z : Nat, x < 8 → y < 8 → z < 8 → wf u n p x → wf u n p y → wf u n p z → x ≤ y → y ≤ z → ¬ gV_here (wks (tlk (tlk (tlk u p x) p y) p z) n k) p = 0 → Qx u n p k 3 := by
        intro x y z hx hy hz gx gy gz hxy hyz hk
        have d0 : dg (x + 8 * y + 64 * z) 0 = x := by unfold dg; omega
        have d1 : dg (x + 8 * y + 64 * z) 1 = y := by unfold dg; omega
        have d2 : dg (x + 8 * y + 64 * z) 2 = z := by unfold dg; omega
        refine ⟨x + 8 * y + 64 * z, by omega, ⟨fun i hi => ?_, fun i hi => ?_⟩, ?_⟩
        · rcases (show i = 0 ∨ i = 1 ∨ i = 2 by omega) with rfl | rfl | rfl
          · rw [d0]; exact gx
          · rw [d1]; exact gy
          · rw [d2]; exact gz
        · rcases (show i = 0 ∨ i = 1 by omega) with rfl | rfl
          · rw [d0, d1]; exact hxy
          · rw [d1, d2]; exact hyz
        · show ¬ gV_here (wks (tlk (tlk (tlk u p (dg (x + 8 * y + 64 * z) 0)) p (dg (x + 8 * y + 64 * z) 1)) p (dg (x + 8 * y + 64 * z) 2)) n k) p = 0
          rw [d0, d1, d2]; exact hk
      have s01 : ∀ a b c : Nat, wf u n p a ∧ a < 8 → wf u n p b ∧ b < 8 → tlk (tlk (tlk u p a) p b) p c = tlk (tlk (tlk u p b) p a) p c := fun a b c h1 h2 => by rw [tlk_comm u hp h1.2 h2.2 h1.1.1 h2.1.1]
      have s12 : ∀ a b c : Nat, wf u n p b ∧ b < 8 → wf u n p c ∧ c < 8 → tlk (tlk (tlk u p a) p b) p c = tlk (tlk (tlk u p a) p c) p b := fun a b c h1 h2 => tlk_comm _ hp h1.2 h2.2 h1.1.1 h2.1.1
      have X := And.intro f0 b0
      have Y := And.intro f1 b1
      have Z := And.intro f2 b2
      rcases Nat.le_total x y with q1 | q1
      · rcases Nat.le_total y z with q2 | q2
        · exact fin x y z b0 b1 b2 f0 f1 f2 q1 q2 h3
        · rw [s12 x y z Y Z] at h3
          rcases Nat.le_total x z with q3 | q3
          · exact fin x z y b0 b2 b1 f0 f2 f1 q3 q2 h3
          · rw [s01 x z y X Z] at h3
            exact fin z x y b2 b0 b1 f2 f0 f1 q3 q1 h3
      · rw [s01 x y z X Y] at h3
        rcases Nat.le_total x z with q2 | q2
        · exact fin y x z b1 b0 b2 f1 f0 f2 q1 q2 h3
        · rw [s12 y x z X Z] at h3
          rcases Nat.le_total y z with q3 | q3
          · exact fin y z x b1 b2 b0 f1 f2 f0 q3 q2 h3
          · rw [s01 y z x Y Z] at h3
            exact fin z y x b2 b1 b0 f2 f1 f0 q3 q1 h3
theorem m_fewest {n W : Nat} {x : XS} {d : DS} (h : XR n W x d) (a v : Int32) : OKi (f_X10_fewest x a v) (f_X11_fewest d a v) := by
  have hn := h.iv.n8
  have hw := h.w
  unfold f_X10_fewest f_X11_fewest
  rw [out_eq]
  rcases nob h a with ⟨p, hp, rfl, e1, e2⟩ | ⟨e1, e2, -⟩
  · have e4 := fgo h hp
    have e5 : f_X11_isHere (gD_s d) (nI p) = some (gV_here (xNow x) p) := here_M h.iv h.rv (by omega)
    rw [e1, e2, e4, Option.bind_some, Option.bind_some, if_neg (show ¬ (1 : Int32) = 0 by decide)]
    rcases rng v (lo := 0) (hi := 60) (by decide) (by decide) with ⟨k, -, hk, rfl, e3⟩ | ⟨c, hc, e3⟩
    · rw [show f_X11_wrongBy (nI k) (0 : Int32) (60 : Int32) = some 0 from e3, Option.bind_some, Option.bind_some, Option.bind_some]
      unfold f_X11_fewest_19
      rw [if_pos rfl, e5, Option.bind_some]
      by_cases g : gV_here (xNow x) p = 0
      · rw [if_pos g, if_pos g]
        refine OK_ref h rc3 ?_ ?_
        · rw [ref3, if_pos rfl, if_pos rfl, cnt_c rc3, Option.bind_some, if_neg rc3.ne]
        · unfold f_X11_fewest_38
          rw [if_neg rc3.ne, no_M rc3, Option.bind_some]
      · rw [if_neg g, if_neg g]
        obtain ⟨v1, w, e6, e7, e8⟩ := ft_X (k := k) h.iv (by omega) h.th hp g (by omega)
        obtain ⟨v2, r, e9, e10⟩ := ft_M (k := k) h.iv h.rv (show p < 8 by omega) (by omega)
        obtain rfl := Ans_eq (Q_eq _ (by omega)) e8 e10
        refine ⟨v1, _, sD_m d r, n, W, ?_, ?_, XR_then h e7 r⟩
        · rw [ref3, if_pos rfl, if_pos rfl, cnt_0, Option.bind_some, if_pos rfl, e6, Option.bind_some]
        · unfold f_X11_fewest_38
          rw [if_pos rfl, e9]
    · rw [show f_X11_wrongBy v (0 : Int32) (60 : Int32) = some c from e3, Option.bind_some, Option.bind_some, Option.bind_some]
      refine OK_ref h hc ?_ ?_
      · rw [ref3, if_pos rfl, if_neg hc.ne, cnt_c hc, Option.bind_some, if_neg hc.ne]
      · unfold f_X11_fewest_19 f_X11_fewest_38
        rw [if_neg hc.ne, if_neg hc.ne, no_M hc, Option.bind_some]
  · rw [e1, e2]
    obtain ⟨c9, e9⟩ := wb_any v 0 60
    obtain ⟨c8, e8⟩ := fgo_any h a
    rw [e9, e8]
    refine OK_ref h rc1 ?_ ?_
    · rw [Option.bind_some, Option.bind_some, Option.bind_some, ref3, if_neg (by decide), cnt_c rc1, Option.bind_some, if_neg rc1.ne]
    · unfold f_X11_fewest_19 f_X11_fewest_38
      rw [Option.bind_some, if_pos rfl, if_neg (by decide), if_neg (by decide), no_M rc1, Option.bind_some]
