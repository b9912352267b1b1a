/-! the power of a voice -/
theorem XR_oth {n W : Nat} {x : XS} {d : DS} (h : XR n W x d) {u w : VS} (hu : AnyV u) (hw : AnyV w) (r r2 : Nat → Int32) : XR n W (sX_mind x (sM_oth (sM_then (gX_mind x) u) w)) (sD_was (sD_m d r) r2) := ⟨h.1, h.2.1, h.2.2.1, hu, hw, h.2.2.2.2.2⟩
def foT (u : VS) (p : Nat) : Nat → VS
  | 0 => u
  | i + 1 => sV_mem (foT u p i) (upd (gV_mem (foT u p i)) (8 * p + i) 0)
theorem IV_foT {n W : Nat} {u : VS} (h : IV n W u) {p : Nat} (hp : p < 8) : ∀ i, i ≤ 8 → IV n W (foT u p i) := by
  intro i
  induction i with
  | zero => intro _; exact h
  | succ i ih => intro hi; exact IV_mem (ih (by omega)) (by omega) ⟨0, by decide, rfl⟩
theorem fo_X {u : VS} {n W p : Nat} (hI : IV n W u) (hp : p < 8) : f_X8_forgetOthers u (nI p) = some (foT u p n) := by
  have hn := hI.n8
  unfold f_X8_forgetOthers f_X8_forgetOthers_2
  refine lq2_inv (fun i a b => a = foT u p i ∧ b = nI i) (fun o => o = some (foT u p n)) n ?_ smN _ _ (smN_gt (by omega)) ⟨rfl, rfl⟩
  rintro i a b hi ⟨rfl, rfl⟩
  unfold b_X8_forgetOthers_2
  rw [(IV_foT hI hp i (by omega)).pe]
  rcases Nat.lt_or_ge i n with h | h
  · left
    refine ⟨foT u p (i + 1), nI (i + 1), h, ⟨rfl, rfl⟩, fun k => ?_⟩
    rw [sm_X _ hp (by omega), Option.bind_some]
    simp (disch := omega) only [ile, i1]
    rw [if_neg (by omega)]
    rfl
  · right
    obtain rfl : i = n := by omega
    refine ⟨_, rfl, fun k => ?_⟩
    simp (disch := omega) only [ile]
    rw [if_pos (Nat.le_refl _)]
def pwT (u w : VS) (n : Nat) : Nat → Int32
  | 0 => 0
  | i + 1 => if ls (wks u n (i + 1)) n = ls (wks w n (i + 1)) n then pwT u w n i else pwT u w n i + 1
theorem pw28_X {u : MS} {n W k : Nat} {a0 b0 : VS} (ha : IV n W a0) (hb : IV n W b0) (hW : W < 2 ^ 20) (hk : k ≤ 100) : f_X3_powerOf_28 (nI k) smN (sM_oth (sM_then u a0) b0) 0 0 = some (pwT a0 b0 n k, sM_oth (sM_then u (wks a0 n k)) (wks b0 n k)) := by
  unfold f_X3_powerOf_28
  refine lq3_inv (fun i a b c => a = sM_oth (sM_then u (wks a0 n i)) (wks b0 n i) ∧ b = pwT a0 b0 n i ∧ c = nI i) (fun o => o = some (pwT a0 b0 n k, sM_oth (sM_then u (wks a0 n k)) (wks b0 n k))) k ?_ smN _ _ _ (smN_gt (by omega)) ⟨rfl, rfl, rfl⟩
  rintro i a b c hi ⟨rfl, rfl, rfl⟩
  unfold b_X3_powerOf_28
  rcases Nat.lt_or_ge i k with h | h
  · left
    have e1 : f_X8_passWeek (gM_then (sM_oth (sM_then u (wks a0 n i)) (wks b0 n i))) = some (wks a0 n (i + 1)) := wk_X (IV_wks ha i) (by omega)
    have e2 : f_X8_passWeek (gM_oth (sM_then (sM_oth (sM_then u (wks a0 n i)) (wks b0 n i)) (wks a0 n (i + 1)))) = some (wks b0 n (i + 1)) := wk_X (IV_wks hb i) (by omega)
    have e3 : f_X8_leastKnown (gM_then (sM_oth (sM_then (sM_oth (sM_then u (wks a0 n i)) (wks b0 n i)) (wks a0 n (i + 1))) (wks b0 n (i + 1)))) = some (ls (wks a0 n (i + 1)) n) := ls_X (IV_wks ha (i + 1))
    have e4 : f_X8_leastKnown (gM_oth (sM_oth (sM_then (sM_oth (sM_then u (wks a0 n i)) (wks b0 n i)) (wks a0 n (i + 1))) (wks b0 n (i + 1)))) = some (ls (wks b0 n (i + 1)) n) := ls_X (IV_wks hb (i + 1))
    refine ⟨sM_oth (sM_then u (wks a0 n (i + 1))) (wks b0 n (i + 1)), pwT a0 b0 n (i + 1), nI (i + 1), h, ⟨rfl, rfl, rfl⟩, fun kk => ?_⟩
    rw [e1, Option.bind_some, e2, Option.bind_some, e3, Option.bind_some, e4, Option.bind_some]
    simp (disch := omega) only [ile, i1, Int32.add_zero]
    rw [if_neg (by omega)]
    simp only [pwT]
    split <;> rfl
  · right
    obtain rfl : i = k := by omega
    refine ⟨_, rfl, fun kk => ?_⟩
    simp (disch := omega) only [ile]
    rw [if_pos (Nat.le_refl _)]
theorem pw_X {u : MS} {n W p k : Nat} (hI : IV n W (gM_now u)) (hW : W < 2 ^ 20) (ht : AnyV (gM_then u)) (ho : AnyV (gM_oth u)) (hp : p < 8) (hk : k ≤ 100) : f_X3_powerOf u (nI p) (nI k) = some (pwT (gM_now u) (foT (gM_now u) p n) n k, sM_oth (sM_then u (wks (gM_now u) n k)) (wks (foT (gM_now u) p n) n k)) := by
  unfold f_X3_powerOf
  have e1 : f_X8_copy (gM_oth (sM_then u (gM_now u)), gM_now (sM_then u (gM_now u))) = some (gM_now u, gM_now u) := copy_X ho.nz hI
  have e2 : f_X8_forgetOthers (gM_oth (sM_now (sM_oth (sM_then u (gM_now u)) (gM_now u, gM_now u).1) (gM_now u, gM_now u).2)) (nI p) = some (foT (gM_now u) p n) := fo_X hI hp
  rw [sa_X hI ht, Option.bind_some, e1, Option.bind_some, e2, Option.bind_some]
  exact pw28_X hI (IV_foT hI hp n hI.n8) hW hk
theorem pw108_M {d : DS} {n W k : Nat} {a0 b0 : VS} (ha : IV n W a0) (hb : IV n W b0) (hRa : RV a0 (gD_m d)) (hRb : RV b0 (gD_was d)) : ∃ r r2, f_X11_power_108 (nI k) smN d 0 0 = some (pwT a0 b0 n k, sD_was (sD_m d r) r2) ∨ 100 < k := by
  by_cases hk : k ≤ 100
  · have key : ∃ r r2, f_X11_power_108 (nI k) smN d 0 0 = some (pwT a0 b0 n k, sD_was (sD_m d r) r2) := by
      unfold f_X11_power_108
      refine lq3_inv (fun i a b c => (∃ r r2, RV (wks a0 n i) r ∧ RV (wks b0 n i) r2 ∧ a = sD_was (sD_m d r) r2) ∧ b = pwT a0 b0 n i ∧ c = nI i) (fun o => ∃ r r2, o = some (pwT a0 b0 n k, sD_was (sD_m d r) r2)) k ?_ smN _ _ _ (smN_gt (by omega)) ⟨⟨gD_m d, gD_was d, hRa, hRb, rfl⟩, rfl, rfl⟩
      rintro i a b c hi ⟨⟨r, r2, h1, h2, rfl⟩, rfl, rfl⟩
      unfold b_X11_power_108
      rcases Nat.lt_or_ge i k with h | h
      · left
        obtain ⟨r', g1, g2⟩ := wk_M (IV_wks ha i) h1
        obtain ⟨r2', g3, g4⟩ := wk_M (IV_wks hb i) h2
        have e1 : f_X11_week (gD_m (sD_was (sD_m d r) r2)) = some r' := g2
        have e2 : f_X11_week (gD_was (sD_m (sD_was (sD_m d r) r2) r')) = some r2' := g4
        have e3 : f_X11_leastIn (gD_m (sD_was (sD_m (sD_was (sD_m d r) r2) r') r2')) = some (ls (wks a0 n (i + 1)) n) := ls_M (IV_wks ha (i + 1)) g1
        have e4 : f_X11_leastIn (gD_was (sD_was (sD_m (sD_was (sD_m d r) r2) r') r2')) = some (ls (wks b0 n (i + 1)) n) := ls_M (IV_wks hb (i + 1)) g3
        refine ⟨sD_was (sD_m d r') r2', pwT a0 b0 n (i + 1), nI (i + 1), h, ⟨⟨r', r2', g1, g3, rfl⟩, rfl, rfl⟩, fun kk => ?_⟩
        rw [e1, Option.bind_some, e2, Option.bind_some, e3, Option.bind_some, e4, Option.bind_some]
        simp (disch := omega) only [ile, i1, Int32.add_zero]
        rw [if_neg (by omega)]
        simp only [pwT]
        split <;> rfl
      · right
        obtain rfl : i = k := by omega
        refine ⟨_, ⟨r, r2, rfl⟩, fun kk => ?_⟩
        simp (disch := omega) only [ile]
        rw [if_pos (Nat.le_refl _)]
    obtain ⟨r, r2, e⟩ := key
    exact ⟨r, r2, Or.inl e⟩
  · exact ⟨gD_m d, gD_m d, Or.inr (by omega)⟩
theorem pw73_M {d : DS} {u : VS} {n W p k : Nat} (hI : IV n W u) (hR : RV u (gD_s d)) (hRm : RV u (gD_m d)) (hRw : RV u (gD_was d)) (hp : p < 8) (hk : k ≤ 100) : ∃ r r2, f_X11_power_73 (nI p) (nI k) smN d 0 = some (pwT u (foT u p n) n k, sD_was (sD_m d r) r2) := by
  have hn := hI.n8
  unfold f_X11_power_73
  refine lq2_inv (fun i a b => (∃ r, RV (foT u p i) r ∧ a = sD_was d r) ∧ b = nI i) (fun o => ∃ r r2, o = some (pwT u (foT u p n) n k, sD_was (sD_m d r) r2)) n ?_ smN _ _ (smN_gt (by omega)) ⟨⟨gD_was d, hRw, rfl⟩, rfl⟩
  rintro i a b hi ⟨⟨r, h1, rfl⟩, rfl⟩
  unfold b_X11_power_73
  have e1 : gD_s (sD_was d r) 0 = nI n := hR.pe.trans hI.pe
  simp only [ck0, cl0, e1]
  rcases Nat.lt_or_ge i n with h | h
  · left
    refine ⟨sD_was d (upd r (35 + 8 * p + i) 0), nI (i + 1), h, ⟨⟨_, RV_mem h1 hp (by omega) 0, rfl⟩, rfl⟩, fun kk => ?_⟩
    rw [f_by, Option.bind_some]
    simp (disch := omega) only [ile, i1, ck_ok, icl]
    rw [if_neg (by omega)]
  · right
    obtain rfl : i = n := by omega
    obtain ⟨r1, r2, e⟩ := pw108_M (k := k) (d := sD_was d r) hI (IV_foT hI hp i hn) hRm h1
    have e := e.resolve_right (by omega)
    refine ⟨_, ⟨r1, r2, rfl⟩, fun kk => ?_⟩
    simp (disch := omega) only [ile]
    rw [if_pos (Nat.le_refl _), e]
theorem m_power {n W : Nat} {x : XS} {d : DS} (h : XR n W x d) (a v : Int32) : OKi (f_X10_power x a v) (f_X11_power d a v) := by
  have hn := h.iv.n8
  have hw := h.w
  unfold f_X10_power f_X11_power
  rw [out_eq]
  rcases nob h a with ⟨p, hp, rfl, e1, e2⟩ | ⟨e1, e2, -⟩
  · have e4 := fgo h hp
    have e5 : f_X11_isHere (gD_s d) (nI p) = some (gV_here (xNow x) p) := here_M h.iv h.rv (by omega)
    rw [e1, e2, e4, Option.bind_some, Option.bind_some, if_neg (show ¬ (1 : Int32) = 0 by decide)]
    rcases rng v (lo := 1) (hi := 60) (by decide) (by decide) with ⟨k, -, hk, rfl, e3⟩ | ⟨c, hc, e3⟩
    · rw [show f_X11_wrongBy (nI k) (1 : Int32) (60 : Int32) = some 0 from e3, Option.bind_some, Option.bind_some, Option.bind_some]
      unfold f_X11_power_19
      rw [if_pos rfl, e5, Option.bind_some]
      by_cases g : gV_here (xNow x) p = 0
      · rw [if_pos g, if_pos g]
        refine OK_ref h rc3 ?_ ?_
        · rw [ref3, if_pos rfl, if_pos rfl, cnt_c rc3, Option.bind_some, if_neg rc3.ne]
        · unfold f_X11_power_38
          rw [if_neg rc3.ne, no_M rc3, Option.bind_some]
      · rw [if_neg g, if_neg g]
        obtain ⟨r1, r2, e⟩ := pw73_M (d := sD_was (sD_m d (cpT (gD_s d) (gD_m d) 99)) (cpT (gD_s d) (gD_was d) 99)) (k := k) h.iv h.rv (RV_cp (gD_m d) h.rv) (RV_cp (gD_was d) h.rv) (show p < 8 by omega) (by omega)
        refine ⟨pwT (xNow x) (foT (xNow x) p n) n k, _, sD_was (sD_m d r1) r2, n, W, ?_, ?_, XR_oth h (IV_wks h.iv k).any (IV_wks (IV_foT h.iv (show p < 8 by omega) n hn) k).any r1 r2⟩
        · rw [ref3, if_pos rfl, if_pos rfl, cnt_0, Option.bind_some, if_pos rfl, pw_X h.iv (by omega) h.th h.2.2.2.2.1 (by omega) (by omega), Option.bind_some]
        · unfold f_X11_power_38
          have e6 : f_X11_copies (gD_s (sD_m (sD_s d (gD_s d, cpT (gD_s d) (gD_m d) 99).1) (gD_s d, cpT (gD_s d) (gD_m d) 99).2), gD_was (sD_m (sD_s d (gD_s d, cpT (gD_s d) (gD_m d) 99).1) (gD_s d, cpT (gD_s d) (gD_m d) 99).2)) = some (gD_s d, cpT (gD_s d) (gD_was d) 99) := copies_M _ _
          rw [if_pos rfl, copies_M, Option.bind_some, e6, Option.bind_some]
          exact e
    · rw [show f_X11_wrongBy v (1 : Int32) (60 : Int32) = some c from e3, Option.bind_some, Option.bind_some, Option.bind_some]
      refine OK_ref h hc ?_ ?_
      · rw [ref3, if_pos rfl, if_neg hc.ne, cnt_c hc, Option.bind_some, if_neg hc.ne]
      · unfold f_X11_power_19 f_X11_power_38
        rw [if_neg hc.ne, if_neg hc.ne, no_M hc, Option.bind_some]
  · rw [e1, e2]
    obtain ⟨c9, e9⟩ := wb_any v 1 60
    obtain ⟨c8, e8⟩ := fgo_any h a
    rw [e9, e8]
    refine OK_ref h rc1 ?_ ?_
    · rw [Option.bind_some, Option.bind_some, Option.bind_some, ref3, if_neg (by decide), cnt_c rc1, Option.bind_some, if_neg rc1.ne]
    · unfold f_X11_power_19 f_X11_power_38
      rw [Option.bind_some, if_pos rfl, if_neg (by decide), if_neg (by decide), no_M rc1, Option.bind_some]
