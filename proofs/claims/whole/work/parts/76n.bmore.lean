/-- as a dog -/
def dgv (u : VS) (p : Nat) : VS := sV_kind u (upd (gV_kind u) p 4)
theorem IV_dgv {n W : Nat} {u : VS} (h : IV n W u) {p : Nat} (hp : p < 8) : IV n W (dgv u p) := IV_kind h hp ⟨4, by decide, rfl⟩
def dmT (u : VS) (n k : Nat) : Nat → Nat
  | 0 => cnt (wks u n k) n
  | i + 1 => if gV_here u i = 0 then dmT u n k i else if cnt (wks (dgv u i) n k) n ≤ dmT u n k i then dmT u n k i else cnt (wks (dgv u i) n k) n
def dwT (u : VS) (n k : Nat) : Nat → Int32
  | 0 => -9
  | i + 1 => if gV_here u i = 0 then dwT u n k i else if cnt (wks (dgv u i) n k) n ≤ dmT u n k i then dwT u n k i else nI i
theorem cnt_le (u : VS) (n : Nat) : cnt u n ≤ 8 := pc8_le _
theorem dmT_le (u : VS) (n k : Nat) : ∀ i, dmT u n k i ≤ 8 := by
  intro i
  induction i with
  | zero => exact cnt_le _ _
  | succ i ih =>
    simp only [dmT]
    split
    · exact ih
    · split
      · exact ih
      · exact cnt_le _ _
theorem sv_X {u : MS} {n W k : Nat} (hI : IV n W (gM_now u)) (hW : W < 2 ^ 20) (ht : AnyV (gM_then u)) (hk : k ≤ 100) : ∃ w, AnyV w ∧ f_X3_bestAsDog u (nI k) = some (dwT (gM_now u) n k n, sM_then u w) := by
  have hn := hI.n8
  unfold f_X3_bestAsDog f_X3_bestAsDog_15
  have e0 : f_X8_countHere (gM_then (sM_then u (wks (gM_now u) n k))) = some (nI (cnt (wks (gM_now u) n k) n)) := ch_cnt (IV_wks hI k)
  rw [af_X hI hW ht hk, Option.bind_some, e0, Option.bind_some]
  refine lq4_inv (fun i a b c e => (∃ w, AnyV w ∧ a = sM_then u w) ∧ b = dwT (gM_now u) n k i ∧ c = nI (dmT (gM_now u) n k i) ∧ e = nI i) (fun o => ∃ w, AnyV w ∧ o = some (dwT (gM_now u) n k n, sM_then u w)) n ?_ smN _ _ _ _ (smN_gt (by omega)) ⟨⟨_, (IV_wks hI _).any, rfl⟩, rfl, rfl, rfl⟩
  rintro i a b c e hi ⟨⟨w, hw, rfl⟩, rfl, rfl, rfl⟩
  have hsl := dmT_le (gM_now u) n k i
  unfold b_X3_bestAsDog_15
  have e1 : gV_people (gM_now (sM_then u w)) = nI n := hI.pe
  rw [e1]
  rcases Nat.lt_or_ge i n with h | h
  · left
    have hi8 : i < 8 := by omega
    by_cases g2 : gV_here (gM_now u) i = 0
    · refine ⟨sM_then u w, dwT (gM_now u) n k (i + 1), nI (dmT (gM_now u) n k (i + 1)), nI (i + 1), h, ⟨⟨w, hw, rfl⟩, rfl, rfl, rfl⟩, fun kk => ?_⟩
      simp (disch := omega) only [ile, i1, ck_ok, icl]
      rw [if_neg (by omega), if_pos (show gV_here (gM_now (sM_then u w)) i = 0 from g2)]
      simp only [dwT, dmT, if_pos g2]
    · have hI2 := IV_dgv hI hi8
      have hgl := cnt_le (wks (dgv (gM_now u) i) n k) n
      have e3 : f_X3_startAgain (sM_then u w) = some (sM_then u (gM_now u)) := sa_X (u := sM_then u w) hI hw
      have e5 : f_X8_passWeeks (dgv (gM_now u) i) (nI k) = some (wks (dgv (gM_now u) i) n k) := wks_X hI2 hW hk
      have e6 : f_X8_countHere (wks (dgv (gM_now u) i) n k) = some (nI (cnt (wks (dgv (gM_now u) i) n k) n)) := ch_cnt (IV_wks hI2 k)
      refine ⟨sM_then u (wks (dgv (gM_now u) i) n k), dwT (gM_now u) n k (i + 1), nI (dmT (gM_now u) n k (i + 1)), nI (i + 1), h, ⟨⟨_, (IV_wks hI2 _).any, rfl⟩, rfl, rfl, rfl⟩, fun kk => ?_⟩
      simp (disch := omega) only [ile, i1, ck_ok, icl]
      rw [if_neg (by omega), if_neg (show ¬ gV_here (gM_now (sM_then u w)) i = 0 from g2), e3, Option.bind_some]
      show (f_X8_passWeeks (dgv (gM_now u) i) (nI k)).bind _ = _
      rw [e5, Option.bind_some, Option.bind_some]
      show (f_X8_countHere (wks (dgv (gM_now u) i) n k)).bind _ = _
      rw [e6, Option.bind_some]
      simp (disch := omega) only [ile]
      simp only [dwT, dmT, if_neg g2]
      by_cases g3 : cnt (wks (dgv (gM_now u) i) n k) n ≤ dmT (gM_now u) n k i
      · rw [if_pos g3, if_pos g3, if_pos g3]
      · rw [if_neg g3, if_neg g3, if_neg g3]
        rw [Option.bind_some]
  · right
    obtain rfl : i = n := by omega
    refine ⟨_, ⟨w, hw, rfl⟩, fun kk => ?_⟩
    simp (disch := omega) only [ile]
    rw [if_pos (Nat.le_refl _)]
theorem sv_M {d : DS} {u : VS} {n W k : Nat} (hI : IV n W u) (hR : RV u (gD_s d)) (hk : k ≤ 100) : ∃ r, f_X11_save_41 (nI k) smN d (nI (cnt (wks u n k) n)) (-9) 0 = some (dwT u n k n, sD_m d r) := by
  have hn := hI.n8
  unfold f_X11_save_41
  refine lq4_inv (fun i a c b e => (∃ r, a = sD_m d r) ∧ b = dwT u n k i ∧ c = nI (dmT u n k i) ∧ e = nI i) (fun o => ∃ r, o = some (dwT u n k n, sD_m d r)) n ?_ smN _ _ _ _ (smN_gt (by omega)) ⟨⟨gD_m d, rfl⟩, rfl, rfl, rfl⟩
  rintro i a c b e hi ⟨⟨r, rfl⟩, rfl, rfl, rfl⟩
  have hsl := dmT_le u n k i
  unfold b_X11_save_41
  have e1 : gD_s (sD_m d r) 0 = nI n := hR.pe.trans hI.pe
  simp only [ck0, cl0, e1]
  rcases Nat.lt_or_ge i n with h | h
  · left
    have hi8 : i < 8 := by omega
    have e2 : f_X11_isHere (gD_s (sD_m d r)) (nI i) = some (gV_here u i) := here_M hI hR hi8
    rw [e2]
    by_cases g2 : gV_here u i = 0
    · refine ⟨sD_m d r, nI (dmT u n k (i + 1)), dwT u n k (i + 1), nI (i + 1), h, ⟨⟨r, rfl⟩, rfl, rfl, rfl⟩, fun kk => ?_⟩
      simp (disch := omega) only [ile, i1, Option.bind_some]
      rw [if_neg (by omega), if_pos g2]
      simp only [dwT, dmT, if_pos g2]
    · have hI2 := IV_dgv hI hi8
      have hgl := cnt_le (wks (dgv u i) n k) n
      have hR2 : RV (dgv u i) (upd (cpT (gD_s d) r 99) (3 + 4 * i + 0) 4) := RV_kind (RV_cp r hR) hi8 4
      obtain ⟨r2, k1, k2⟩ := wks_M hI2 hR2 hk
      have e3 : f_X11_copies (gD_s (sD_m d r), gD_m (sD_m d r)) = some (gD_s d, cpT (gD_s d) r 99) := copies_M _ _
      have e4 : f_X11_of (nI i) (0 : Int32) = some (nI (3 + 4 * i + 0)) := f_of i 0
      have e5 : f_X11_hereIn (gD_m (sD_m d r2)) = some (nI (hbN (wks (dgv u i) n k) n)) := hb_M (IV_wks hI2 k) k1
      have e6 : f_X11_bits (nI (hbN (wks (dgv u i) n k) n)) = some (nI (cnt (wks (dgv u i) n k) n)) := bc_M (hbN_256 _ hn)
      refine ⟨sD_m d r2, nI (dmT u n k (i + 1)), dwT u n k (i + 1), nI (i + 1), h, ⟨⟨r2, rfl⟩, rfl, rfl, rfl⟩, fun kk => ?_⟩
      simp (disch := omega) only [ile, i1, Option.bind_some]
      rw [if_neg (by omega), if_neg g2, e3, Option.bind_some, e4, Option.bind_some, ck_ok (by omega) (by decide), icl (by omega)]
      show (f_X11_weeksOn (upd (cpT (gD_s d) r 99) (3 + 4 * i + 0) 4) (nI k)).bind _ = _
      rw [k2, Option.bind_some]
      show (f_X11_hereIn (gD_m (sD_m d r2))).bind _ = _
      rw [e5, Option.bind_some, e6, Option.bind_some]
      simp (disch := omega) only [ilt]
      simp only [dwT, dmT, if_neg g2]
      by_cases g3 : cnt (wks (dgv u i) n k) n ≤ dmT u n k i
      · rw [if_pos g3, if_pos g3, if_neg (by omega)]
      · rw [if_neg g3, if_neg g3, if_pos (by omega)]
  · right
    obtain rfl : i = n := by omega
    refine ⟨_, ⟨r, rfl⟩, fun kk => ?_⟩
    simp (disch := omega) only [ile]
    rw [if_pos (Nat.le_refl _)]
theorem m_save {n W : Nat} {x : XS} {d : DS} (h : XR n W x d) (v : Int32) : OKi (f_X10_save x v) (f_X11_save d v) := by
  have hw := h.w
  have hn := h.iv.n8
  unfold f_X10_save f_X11_save
  rw [out_eq]
  rcases rng v (lo := 0) (hi := 60) (by decide) (by decide) with ⟨k, -, hk, rfl, e3⟩ | ⟨c, hc, e3⟩
  · have e3 : f_X11_wrongBy (nI k) (0 : Int32) (60 : Int32) = some 0 := e3
    obtain ⟨w, hw1, hw2⟩ := sv_X (k := k) h.iv (by omega) h.th (by omega)
    obtain ⟨r, g1, g2⟩ := tk_M h.iv h.rv (show k ≤ 100 by omega)
    have e5 : f_X11_hereIn (gD_m (sD_m d r)) = some (nI (hbN (wks (xNow x) n k) n)) := hb_M (IV_wks h.iv k) g1
    have e6 : f_X11_bits (nI (hbN (wks (xNow x) n k) n)) = some (nI (cnt (wks (xNow x) n k) n)) := bc_M (hbN_256 _ hn)
    obtain ⟨r2, hr2⟩ := sv_M (d := sD_m d r) (k := k) h.iv h.rv (by omega)
    refine ⟨dwT (xNow x) n k n, sX_mind x (sM_then (gX_mind x) w), sD_m d r2, n, W, ?_, ?_, XR_then h hw1 r2⟩
    · rw [e3, Option.bind_some, ref1, cnt_0, Option.bind_some, if_pos rfl, hw2, Option.bind_some]
    · rw [e3, Option.bind_some, if_pos rfl, g2, Option.bind_some, e5, Option.bind_some, e6, Option.bind_some, hr2]
  · have e3 : f_X11_wrongBy v (0 : Int32) (60 : Int32) = some c := e3
    refine OK_ref h hc ?_ ?_
    · rw [e3, Option.bind_some, ref1, cnt_c hc, Option.bind_some, if_neg hc.ne]
    · rw [e3, Option.bind_some, if_neg hc.ne, no_M hc, Option.bind_some]
