theorem has_b {m i : Nat} (hm : m < 256) (hi : i < 8) : f_X11_has (nI m) (nI i) = some (if m.testBit i = true then 1 else 0) := by
  unfold f_X11_has
  rw [bit_M i hi m hm, Nat.testBit_eq_decide_div_mod_eq]
  have h2 : m / 2 ^ i % 2 < 2 := Nat.mod_lt _ (by decide)
  simp (disch := omega) only [l1, ieq, decide_eq_true_eq]
  split <;> rfl
abbrev Pok (u : VS) (m a b : Nat) : Prop := m.testBit a = true → m.testBit b = true → (¬ gV_here u a = 0 ∧ ¬ gV_here u b = 0 ∧ Lg u a b)
theorem la85_M {d : DS} {u : VS} {n W m a : Nat} {v1 hb fo : Int32} (hI : IV n W u) (hR : RV u (gD_s d)) (hm : m < 256) (ha : a < 8) (k29 : DS → Int32 → Int32 → Int32 → Option (Int32 × DS)) (k66 : DS → Int32 → Int32 → Int32 → Int32 → Int32 → Option (Int32 × DS)) {v : Int32} (hv : Vl v (∀ b, b < a → Pok u m a b)) : f_X11_largest_85 v1 k29 k66 smN d hb fo (nI m) 1 (nI a) 0 = k66 d hb fo (nI m) v (nI (a + 1)) := by
  unfold f_X11_largest_85
  refine lq7_inw (fun i w c e f g y z => w = d ∧ c = hb ∧ e = fo ∧ f = nI m ∧ Vl g (∀ b, b < i → Pok u m a b) ∧ y = nI a ∧ z = nI i) (fun o => o = k66 d hb fo (nI m) v (nI (a + 1))) a ?_ smN _ _ _ _ _ _ _ (smN_gt (by omega)) ⟨rfl, rfl, rfl, rfl, Or.inl ⟨rfl, fun b h => by omega⟩, rfl, rfl⟩
  rintro i w c e f g y z kk hi ⟨rfl, rfl, rfl, rfl, hg, rfl, rfl⟩
  unfold b_X11_largest_85
  simp (disch := omega) only [ile, i1]
  have fin : ∀ g' : Int32, (∃ i', i' ≤ a ∧ Vl g' (∀ b, b < i' → Pok u m a b) ∧ (g' = 0 ∨ i' = a)) → g' = v := by
    rintro g' ⟨i', h1, h2, h3⟩
    rcases hv with ⟨rfl, hv⟩ | ⟨rfl, hv⟩
    · rcases h2 with ⟨rfl, h2⟩ | ⟨rfl, h2⟩
      · rfl
      · exact absurd (fun b hb => hv b (by omega)) h2
    · rcases h2 with ⟨rfl, h2⟩ | ⟨rfl, h2⟩
      · rcases h3 with h3 | rfl
        · exact absurd h3 (by decide)
        · exact absurd h2 hv
      · rfl
  rcases Nat.lt_or_ge i a with h | h
  · rw [if_neg (by omega)]
    rcases hg with ⟨rfl, hg⟩ | ⟨rfl, hg⟩
    · left
      rw [if_neg (show ¬ (1 : Int32) = 0 by decide), has_b hm ha, has_b hm (show i < 8 by omega), al_M hI hR ha (show i < 8 by omega), Option.bind_some, Option.bind_some, Option.bind_some]
      have nx : Pok u m a i → ∀ b, b < i + 1 → Pok u m a b := by
        intro q b hb
        rcases Nat.lt_or_ge b i with q2 | q2
        · exact hg b q2
        · rw [show b = i by omega]; exact q
      by_cases g1 : m.testBit a = true
      · rw [if_pos g1, if_neg (show ¬ (1 : Int32) = 0 by decide)]
        by_cases g2 : m.testBit i = true
        · rw [if_pos g2, if_neg (show ¬ (1 : Int32) = 0 by decide)]
          by_cases g3 : ¬ gV_here u a = 0 ∧ ¬ gV_here u i = 0 ∧ Lg u a i
          · rw [if_neg g3.1, if_neg g3.2.1, if_neg g3.2.2.1, if_neg g3.2.2.2, if_neg (show ¬ (1 : Int32) = 0 by decide)]
            exact ⟨_, _, _, _, _, _, _, h, ⟨rfl, rfl, rfl, rfl, Or.inl ⟨rfl, nx (fun _ _ => g3)⟩, rfl, rfl⟩, rfl⟩
          · have e0 : (if gV_here u a = 0 then (0 : Int32) else if gV_here u i = 0 then 0 else if gV_mem u (8 * a + i) < 50 then 0 else if gV_mem u (8 * i + a) < 50 then 0 else 1) = 0 := by
              by_cases q1 : gV_here u a = 0
              · rw [if_pos q1]
              by_cases q2 : gV_here u i = 0
              · rw [if_neg q1, if_pos q2]
              by_cases q3 : gV_mem u (8 * a + i) < 50
              · rw [if_neg q1, if_neg q2, if_pos q3]
              by_cases q4 : gV_mem u (8 * i + a) < 50
              · rw [if_neg q1, if_neg q2, if_neg q3, if_pos q4]
              exact absurd ⟨q1, q2, q3, q4⟩ g3
            rw [e0, if_pos rfl]
            exact ⟨_, _, _, _, _, _, _, h, ⟨rfl, rfl, rfl, rfl, Or.inr ⟨rfl, fun q => g3 (q i (by omega) g1 g2)⟩, rfl, rfl⟩, rfl⟩
        · rw [if_neg g2, if_pos rfl]
          exact ⟨_, _, _, _, _, _, _, h, ⟨rfl, rfl, rfl, rfl, Or.inl ⟨rfl, nx (fun _ q => absurd q g2)⟩, rfl, rfl⟩, rfl⟩
      · rw [if_neg g1, if_pos rfl]
        exact ⟨_, _, _, _, _, _, _, h, ⟨rfl, rfl, rfl, rfl, Or.inl ⟨rfl, nx (fun q => absurd q g1)⟩, rfl, rfl⟩, rfl⟩
    · right
      rw [if_pos rfl, fin 0 ⟨i, hi, Or.inr ⟨rfl, hg⟩, Or.inl rfl⟩]
  · right
    rw [if_pos h, fin g ⟨i, hi, hg, Or.inr (by omega)⟩]
theorem la66_M {d : DS} {u : VS} {n W m : Nat} {v1 hb fo v0 : Int32} {P : Prop} (hI : IV n W u) (hR : RV u (gD_s d)) (hm : m < 256) (h0 : Vl v0 P) (k29 : DS → Int32 → Int32 → Int32 → Option (Int32 × DS)) {v : Int32} (hv : Vl v (P ∧ ∀ a, a < n → ∀ b, b < a → Pok u m a b)) : f_X11_largest_66 v1 k29 smN d hb fo (nI m) v0 0 = f_X11_largest_147 v1 k29 d hb fo (nI m) v := by
  have hn := hI.n8
  unfold f_X11_largest_66
  refine lq6_inw (fun i w c e f g y => w = d ∧ c = hb ∧ e = fo ∧ f = nI m ∧ Vl g (P ∧ ∀ a, a < i → ∀ b, b < a → Pok u m a b) ∧ y = nI i) (fun o => o = f_X11_largest_147 v1 k29 d hb fo (nI m) v) n ?_ smN _ _ _ _ _ _ (smN_gt (by omega)) ⟨rfl, rfl, rfl, rfl, ?_, rfl⟩
  · rintro i w c e f g y kk hi ⟨rfl, rfl, rfl, rfl, hg, rfl⟩
    unfold b_X11_largest_66
    simp (disch := omega) only [ck0, cl0, hR.pe.trans hI.pe, ile]
    have fin : ∀ g' : Int32, (∃ i', i' ≤ n ∧ Vl g' (P ∧ ∀ a, a < i' → ∀ b, b < a → Pok u m a b) ∧ (g' = 0 ∨ i' = n)) → g' = v := by
      rintro g' ⟨i', h1, h2, h3⟩
      rcases hv with ⟨rfl, hv⟩ | ⟨rfl, hv⟩
      · rcases h2 with ⟨rfl, h2⟩ | ⟨rfl, h2⟩
        · rfl
        · exact absurd ⟨hv.1, fun a ha => hv.2 a (by omega)⟩ h2
      · rcases h2 with ⟨rfl, h2⟩ | ⟨rfl, h2⟩
        · rcases h3 with h3 | rfl
          · exact absurd h3 (by decide)
          · exact absurd h2 hv
        · rfl
    rcases Nat.lt_or_ge i n with h | h
    · rw [if_neg (by omega)]
      rcases hg with ⟨rfl, hg⟩ | ⟨rfl, hg⟩
      · left
        obtain ⟨v', hv'⟩ := Vl_ex (∀ b, b < i → Pok u m i b)
        rw [if_neg (show ¬ (1 : Int32) = 0 by decide), la85_M hI hR hm (show i < 8 by omega) k29 kk hv']
        refine ⟨_, _, _, _, _, _, h, ⟨rfl, rfl, rfl, rfl, ?_, rfl⟩, rfl⟩
        rcases hv' with ⟨rfl, hv'⟩ | ⟨rfl, hv'⟩
        · refine Or.inl ⟨rfl, hg.1, fun a ha => ?_⟩
          rcases Nat.lt_or_ge a i with q | q
          · exact hg.2 a q
          · rw [show a = i by omega]; exact hv'
        · exact Or.inr ⟨rfl, fun q => hv' (q.2 i (by omega))⟩
      · right
        rw [if_pos rfl, fin 0 ⟨i, hi, Or.inr ⟨rfl, hg⟩, Or.inl rfl⟩]
    · right
      rw [if_pos h, fin g ⟨i, hi, hg, Or.inr (by omega)⟩]
  · rcases h0 with ⟨rfl, h0⟩ | ⟨rfl, h0⟩
    · exact Or.inl ⟨rfl, h0, fun a h => by omega⟩
    · exact Or.inr ⟨rfl, fun q => h0 q.1⟩
theorem LG_M {u : VS} {n m : Nat} (hn : n ≤ 8) (hm : m < 2 ^ n) : LGp u n m ↔ (∀ j, j < 8 → m.testBit j = true → (hbN u n).testBit j = true) ∧ ∀ a, a < n → ∀ b, b < a → Pok u m a b := by
  constructor
  · intro h
    refine ⟨fun j hj hb => ?_, fun a ha b hb q1 q2 => ⟨h.1 a ha q1, h.1 b (by omega) q2, h.2 a b ha hb q1 q2⟩⟩
    have hjn := bit_lt hm hb
    rw [hb_bit]
    simp [hjn, h.1 j hjn hb]
  · intro h
    refine ⟨fun i hi hb => ?_, fun i j hi hj q1 q2 => (h.2 i hi j hj q1 q2).2.2⟩
    have q := h.1 i (by omega) hb
    rw [hb_bit] at q
    intro e
    simp [e] at q
theorem la_M {d : DS} {u : VS} {n W : Nat} {v1 : Int32} (hI : IV n W u) (hR : RV u (gD_s d)) : ∃ b, b < 256 ∧ Bst u n (2 ^ n) b ∧ f_X11_largest_29 v1 smN d (nI (hbN u n)) 0 0 = if v1 = 0 then some (nI b, d) else some (nI (pc8 b), d) := by
  have hn := hI.n8
  have hh := hbN_256 u hn
  have hl := hbN_lt u n
  unfold f_X11_largest_29
  refine lq4_inw (fun i w c e f => w = d ∧ c = nI (hbN u n) ∧ (∃ s, e = nI s ∧ Bst u n i s) ∧ f = nI i) (fun o => ∃ b, b < 256 ∧ Bst u n (2 ^ n) b ∧ o = if v1 = 0 then some (nI b, d) else some (nI (pc8 b), d)) (hbN u n + 1) ?_ smN _ _ _ _ (smN_gt (by omega)) ⟨rfl, rfl, ⟨0, rfl, Or.inl rfl, LG0 _ _, fun s hs => by omega, fun s hs => by omega⟩, rfl⟩
  rintro i w c e f kk hi ⟨rfl, rfl, ⟨s, rfl, hB⟩, rfl⟩
  unfold b_X11_largest_29
  have hs : s < 256 := by have := hB.1; omega
  have hp1 := pc8_le s
  have hp2 := pc8_le i
  simp (disch := omega) only [ilt]
  rcases Nat.lt_or_ge (hbN u n) i with h | h
  · right
    obtain rfl : i = hbN u n + 1 := by omega
    refine ⟨s, hs, Bst_up hB, ?_⟩
    rw [if_pos h, bc_M hs, Option.bind_some]
  · left
    have hi8 : i < 256 := by omega
    have hi2 : i < 2 ^ n := by omega
    rw [if_neg (by omega)]
    have key : ∀ v0, Vl v0 ((∀ j, j < 8 → i.testBit j = true → (hbN u n).testBit j = true) ∧ pc8 s < pc8 i) → ∃ s', f_X11_largest_66 v1 kk smN w (nI (hbN u n)) (nI s) (nI i) v0 0 = kk w (nI (hbN u n)) (nI s') (nI (i + 1)) ∧ Bst u n (i + 1) s' := by
      intro v0 h0
      obtain ⟨v', hv'⟩ := Vl_ex (((∀ j, j < 8 → i.testBit j = true → (hbN u n).testBit j = true) ∧ pc8 s < pc8 i) ∧ ∀ a, a < n → ∀ b, b < a → Pok u i a b)
      rw [la66_M hI hR hi8 h0 kk hv']
      unfold f_X11_largest_147
      rw [i1]
      have hLG := LG_M (u := u) hn hi2
      rcases hv' with ⟨rfl, q⟩ | ⟨rfl, q⟩
      · refine ⟨i, by rw [if_neg (by decide)], Bst_yes hB q.1.2 (hLG.mpr ⟨q.1.1, q.2⟩)⟩
      · refine ⟨s, by rw [if_pos rfl], Bst_no hB (fun k => q ⟨⟨(hLG.mp k.2).1, k.1⟩, (hLG.mp k.2).2⟩)⟩
    have e1 := and_nb hi8 hh
    by_cases g1 : nI i &&& (nI (hbN u n) ^^^ (-1 : Int32)) = 0
    · rw [if_pos g1, bc_M hi8, bc_M hs, Option.bind_some, Option.bind_some]
      simp (disch := omega) only [ile]
      by_cases g2 : pc8 i ≤ pc8 s
      · rw [if_pos g2]
        obtain ⟨s', q1, q2⟩ := key 0 (Or.inr ⟨rfl, fun q => by omega⟩)
        exact ⟨_, _, _, _, by omega, ⟨rfl, rfl, ⟨s', rfl, q2⟩, rfl⟩, q1⟩
      · rw [if_neg g2]
        obtain ⟨s', q1, q2⟩ := key 1 (Or.inl ⟨rfl, e1.mp g1, by omega⟩)
        exact ⟨_, _, _, _, by omega, ⟨rfl, rfl, ⟨s', rfl, q2⟩, rfl⟩, q1⟩
    · rw [if_neg g1]
      obtain ⟨s', q1, q2⟩ := key 0 (Or.inr ⟨rfl, fun q => g1 (e1.mpr q.1)⟩)
      exact ⟨_, _, _, _, by omega, ⟨rfl, rfl, ⟨s', rfl, q2⟩, rfl⟩, q1⟩
theorem XR_lg {n W : Nat} {x : XS} {d : DS} (h : XR n W x d) (l : Nat → Int32) : XR n W (sX_mind x (sM_lg (gX_mind x) l)) d := h
theorem m_largest {n W : Nat} {x : XS} {d : DS} (h : XR n W x d) (v : Int32) : OKi (f_X10_largest x v) (f_X11_largest d v) := by
  have hn := h.iv.n8
  unfold f_X10_largest f_X11_largest
  rcases wwh v (hi := 1) (by decide) with ⟨k, hk, rfl, e1, e2⟩ | ⟨e1, e2, -⟩
  · have e1 : f_X10_wrongWhat (nI k) (1 : Int32) = some 0 := e1
    have e2 : f_X11_isIn (nI k) (0 : Int32) (1 : Int32) = some 1 := e2
    rw [e1, e2, Option.bind_some, Option.bind_some, ref1, cnt_0, Option.bind_some, if_pos rfl, if_neg (show ¬ (1 : Int32) = 0 by decide)]
    obtain ⟨b, l, g1, g2⟩ := ll_X (u := gX_mind x) h.iv
    obtain ⟨b', g0, g3, g4⟩ := la_M (v1 := nI k) h.iv h.rv
    obtain rfl := Bst_un g1 g3
    have g2 : f_X3_largestLeague (gX_mind (((0 : Int32), x)).2) = some (nI b, sM_lg (gX_mind x) l) := g2
    refine ⟨if nI k = 0 then nI b else nI (pc8 b), _, d, n, W, ?_, ?_, XR_lg h l⟩
    · rw [g2, Option.bind_some, bc_X b g0, Option.bind_some]
      split <;> rfl
    · rw [hb_M h.iv h.rv, Option.bind_some, g4]
      split <;> rfl
  · have e1 : f_X10_wrongWhat v (1 : Int32) = some (-2) := e1
    have e2 : f_X11_isIn v (0 : Int32) (1 : Int32) = some 0 := e2
    rw [e1, e2, Option.bind_some, Option.bind_some, ref1, cnt_c rc2, Option.bind_some, if_neg (show ¬ (-2 : Int32) = 0 by decide), if_pos rfl]
    refine OK_ref h rc2 rfl ?_
    rw [no_M rc2, Option.bind_some]
