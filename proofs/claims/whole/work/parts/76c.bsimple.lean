theorem m_owes {n W : Nat} {x : XS} {d : DS} (h : XR n W x d) (a v : Int32) : OKi (f_X10_owes x a v) (f_X11_owes d a v) := by
  have hn := h.iv.n8
  unfold f_X10_owes f_X11_owes
  rw [out_eq]
  rcases nob h a with ⟨p, hp, rfl, e1, e2⟩ | ⟨e1, e2, -⟩
  · rw [e1, e2]
    have e4 : f_X11_of (nI p) (3 : Int32) = some (nI (3 + 4 * p + 3)) := f_of p 3
    rcases rng v (lo := 0) (hi := 99) (by decide) (by decide) with ⟨k, -, hk, rfl, e3⟩ | ⟨c, hc, e3⟩
    · rw [show f_X11_wrongBy (nI k) (0 : Int32) (99 : Int32) = some 0 from e3]
      refine ⟨gV_owed (xNow x) p, sX_mind x (sM_now (gX_mind x) (sV_owed (xNow x) (upd (gV_owed (xNow x)) p (nI k)))), sD_s d (upd (gD_s d) (3 + 4 * p + 3) (nI k)), n, W, ?_, ?_, XR_now h (IV_owed h.iv (by omega) ⟨k, hk, rfl⟩) h.w (RV_owed h.rv (by omega) _)⟩
      · rw [Option.bind_some, Option.bind_some, ref2, if_pos rfl, cnt_0, Option.bind_some, if_pos rfl, ck_ok (by omega) (by decide), ck_ok (by omega) (by decide), Option.bind_some, icl (by omega)]
      · rw [Option.bind_some, if_neg (by decide), Option.bind_some]
        unfold f_X11_owes_19
        rw [if_pos rfl, e4, Option.bind_some, ck_ok (by omega) (by decide), Option.bind_some, ck_ok (by omega) (by decide), icl (by omega), h.rv.ow (by omega)]
    · rw [show f_X11_wrongBy v (0 : Int32) (99 : Int32) = some c from e3]
      refine OK_ref h hc ?_ ?_
      · rw [Option.bind_some, Option.bind_some, ref2, if_pos rfl, cnt_c hc, Option.bind_some, if_neg hc.ne]
      · rw [Option.bind_some, if_neg (by decide), Option.bind_some]
        unfold f_X11_owes_19
        rw [if_neg hc.ne, no_M hc, Option.bind_some]
  · rw [e1, e2]
    obtain ⟨c9, e9⟩ := wb_any v 0 99
    rw [e9]
    refine OK_ref h rc1 ?_ ?_
    · rw [Option.bind_some, Option.bind_some, ref2, if_neg (by decide), cnt_c rc1, Option.bind_some, if_neg rc1.ne]
    · rw [Option.bind_some, if_pos rfl]
      unfold f_X11_owes_19
      rw [if_neg (by decide), no_M rc1, Option.bind_some]
theorem m_names {n W : Nat} {x : XS} {d : DS} (h : XR n W x d) (v : Int32) : OKi (f_X10_names x v) (f_X11_names d v) := by
  unfold f_X10_names f_X11_names
  rw [out_eq]
  rcases rng v (lo := 0) (hi := 3) (by decide) (by decide) with ⟨k, -, hk, rfl, e3⟩ | ⟨c, hc, e3⟩
  · rw [show f_X11_wrongBy (nI k) (0 : Int32) (3 : Int32) = some 0 from e3]
    refine ⟨gV_names (xNow x), sX_mind x (sM_now (gX_mind x) (sV_names (xNow x) (nI k))), sD_s d (upd (gD_s d) 2 (nI k)), n, W, ?_, ?_, XR_now h (IV_names h.iv ⟨k, hk, rfl⟩) h.w (RV_names h.rv _)⟩
    · rw [Option.bind_some, ref1, cnt_0, Option.bind_some, if_pos rfl]
    · rw [Option.bind_some, if_pos rfl, ck2, ck2, cl2, h.rv.na]
  · rw [show f_X11_wrongBy v (0 : Int32) (3 : Int32) = some c from e3]
    refine OK_ref h hc ?_ ?_
    · rw [Option.bind_some, ref1, cnt_c hc, Option.bind_some, if_neg hc.ne]
    · rw [Option.bind_some, if_neg hc.ne, no_M hc, Option.bind_some]
/-! what is in mind: the copies of now -/
theorem sa_X {u : MS} {n W : Nat} (hI : IV n W (gM_now u)) (ht : AnyV (gM_then u)) : f_X3_startAgain u = some (sM_then u (gM_now u)) := by
  unfold f_X3_startAgain
  rw [copy_X ht.nz hI, Option.bind_some]
theorem af_X {u : MS} {n W k : Nat} (hI : IV n W (gM_now u)) (hW : W < 2 ^ 20) (ht : AnyV (gM_then u)) (hk : k ≤ 100) : f_X3_after u (nI k) = some (sM_then u (wks (gM_now u) n k)) := by
  unfold f_X3_after
  have e : f_X8_passWeeks (gM_then (sM_then u (gM_now u))) (nI k) = some (wks (gM_now u) n k) := wks_X hI hW hk
  rw [sa_X hI ht, Option.bind_some, e, Option.bind_some]
theorem tk_M {u : VS} {d : DS} {n W k : Nat} (hI : IV n W u) (hR : RV u (gD_s d)) (hk : k ≤ 100) : ∃ r, RV (wks u n k) r ∧ f_X11_takes d (nI k) = some (sD_m d r) := by
  unfold f_X11_takes
  rw [copies_M, Option.bind_some]
  obtain ⟨r, g1, g2⟩ := wks_M hI (RV_cp (gD_m d) hR) hk
  have e : f_X11_weeksOn (gD_m (sD_m (sD_s d (gD_s d, cpT (gD_s d) (gD_m d) 99).1) (gD_s d, cpT (gD_s d) (gD_m d) 99).2)) (nI k) = some r := g2
  exact ⟨r, g1, by rw [e, Option.bind_some]⟩
theorem m_memoryThen {n W : Nat} {x : XS} {d : DS} (h : XR n W x d) (a b v : Int32) : OKi (f_X10_memoryThen x a b v) (f_X11_memoryThen d a b v) := by
  have hn := h.iv.n8
  have hw := h.w
  unfold f_X10_memoryThen f_X11_memoryThen
  rw [out_eq]
  rcases ntwo h a b with ⟨p, q, hp, hq, hpq, rfl, rfl, e1, e2⟩ | ⟨e1, e2⟩
  · rw [e1, e2]
    rcases rng v (lo := 0) (hi := 99) (by decide) (by decide) with ⟨k, -, hk, rfl, e3⟩ | ⟨c, hc, e3⟩
    · rw [show f_X11_wrongBy (nI k) (0 : Int32) (99 : Int32) = some 0 from e3]
      obtain ⟨r, g1, g2⟩ := tk_M h.iv h.rv (show k ≤ 100 by omega)
      have hI := IV_wks h.iv k
      refine ⟨gV_mem (wks (xNow x) n k) (8 * p + q), sX_mind x (sM_then (gX_mind x) (wks (xNow x) n k)), sD_m d r, n, W, ?_, ?_, XR_then h hI.any r⟩
      · have e : f_X8_memoryOf (gM_then (gX_mind (sX_mind x (sM_then (gX_mind x) (wks (xNow x) n k))))) (nI p) (nI q) = some (gV_mem (wks (xNow x) n k) (8 * p + q)) := mo_X _ (by omega) (by omega)
        rw [Option.bind_some, Option.bind_some, ref2, if_pos rfl, cnt_0, Option.bind_some, if_pos rfl, af_X h.iv (by omega) h.th (by omega), Option.bind_some, e, Option.bind_some]
      · rw [Option.bind_some, if_neg (by decide), Option.bind_some]
        unfold f_X11_memoryThen_20
        have e6 : gD_m (sD_m d r) (35 + 8 * p + q) = gV_mem (wks (xNow x) n k) (8 * p + q) := g1.me (by omega) (by omega)
        rw [if_pos rfl, g2, Option.bind_some, f_by, Option.bind_some, ck_ok (by omega) (by decide), icl (by omega), e6]
    · rw [show f_X11_wrongBy v (0 : Int32) (99 : Int32) = some c from e3]
      refine OK_ref h hc ?_ ?_
      · rw [Option.bind_some, Option.bind_some, ref2, if_pos rfl, cnt_c hc, Option.bind_some, if_neg hc.ne]
      · rw [Option.bind_some, if_neg (by decide), Option.bind_some]
        unfold f_X11_memoryThen_20
        rw [if_neg hc.ne, no_M hc, Option.bind_some]
  · rw [e1, e2]
    obtain ⟨c9, e9⟩ := wb_any v 0 99
    rw [e9]
    refine OK_ref h rc1 ?_ ?_
    · rw [Option.bind_some, Option.bind_some, ref2, if_neg (by decide), cnt_c rc1, Option.bind_some, if_neg rc1.ne]
    · rw [Option.bind_some, if_pos rfl]
      unfold f_X11_memoryThen_20
      rw [if_neg (by decide), no_M rc1, Option.bind_some]
theorem m_knownThen {n W : Nat} {x : XS} {d : DS} (h : XR n W x d) (a v : Int32) : OKi (f_X10_knownThen x a v) (f_X11_knownThen d a v) := by
  have hn := h.iv.n8
  have hw := h.w
  unfold f_X10_knownThen f_X11_knownThen
  rw [out_eq]
  rcases nob h a with ⟨p, hp, rfl, e1, e2⟩ | ⟨e1, e2, -⟩
  · rw [e1, e2]
    rcases rng v (lo := 0) (hi := 99) (by decide) (by decide) with ⟨k, -, hk, rfl, e3⟩ | ⟨c, hc, e3⟩
    · rw [show f_X11_wrongBy (nI k) (0 : Int32) (99 : Int32) = some 0 from e3]
      obtain ⟨r, g1, g2⟩ := tk_M h.iv h.rv (show k ≤ 100 by omega)
      have hI := IV_wks h.iv k
      refine ⟨kn (wks (xNow x) n k) n p, sX_mind x (sM_then (gX_mind x) (wks (xNow x) n k)), sD_m d r, n, W, ?_, ?_, XR_then h hI.any r⟩
      · have e : f_X8_knownOf (gM_then (gX_mind (sX_mind x (sM_then (gX_mind x) (wks (xNow x) n k))))) (nI p) = some (kn (wks (xNow x) n k) n p) := kn_X hI (by omega)
        rw [Option.bind_some, Option.bind_some, ref2, if_pos rfl, cnt_0, Option.bind_some, if_pos rfl, af_X h.iv (by omega) h.th (by omega), Option.bind_some, e, Option.bind_some]
      · have e : f_X11_knownIn (gD_m (sD_m d r)) (nI p) = some (kn (wks (xNow x) n k) n p) := kn_M hI g1 (by omega)
        rw [Option.bind_some, if_neg (by decide), Option.bind_some]
        unfold f_X11_knownThen_19
        rw [if_pos rfl, g2, Option.bind_some, e, Option.bind_some]
    · rw [show f_X11_wrongBy v (0 : Int32) (99 : Int32) = some c from e3]
      refine OK_ref h hc ?_ ?_
      · rw [Option.bind_some, Option.bind_some, ref2, if_pos rfl, cnt_c hc, Option.bind_some, if_neg hc.ne]
      · rw [Option.bind_some, if_neg (by decide), Option.bind_some]
        unfold f_X11_knownThen_19
        rw [if_neg hc.ne, no_M hc, Option.bind_some]
  · rw [e1, e2]
    obtain ⟨c9, e9⟩ := wb_any v 0 99
    rw [e9]
    refine OK_ref h rc1 ?_ ?_
    · rw [Option.bind_some, Option.bind_some, ref2, if_neg (by decide), cnt_c rc1, Option.bind_some, if_neg rc1.ne]
    · rw [Option.bind_some, if_pos rfl]
      unfold f_X11_knownThen_19
      rw [if_neg (by decide), no_M rc1, Option.bind_some]
theorem m_gone {n W : Nat} {x : XS} {d : DS} (h : XR n W x d) (v : Int32) : OKi (f_X10_gone x v) (f_X11_gone d v) := by
  have hw := h.w
  unfold f_X10_gone f_X11_gone
  rw [out_eq]
  rcases rng v (lo := 0) (hi := 99) (by decide) (by decide) with ⟨k, -, hk, rfl, e3⟩ | ⟨c, hc, e3⟩
  · rw [show f_X11_wrongBy (nI k) (0 : Int32) (99 : Int32) = some 0 from e3]
    obtain ⟨r, g1, g2⟩ := tk_M h.iv h.rv (show k ≤ 100 by omega)
    have hI := IV_wks h.iv k
    refine ⟨((1 : Int32) <<< (nI n &&& 31) - 1) &&& (nI (hbN (wks (xNow x) n k) n) ^^^ -1), sX_mind x (sM_then (gX_mind x) (wks (xNow x) n k)), sD_m d r, n, W, ?_, ?_, XR_then h hI.any r⟩
    · have e : f_X8_forgottenBits (gM_then (gX_mind (sX_mind x (sM_then (gX_mind x) (wks (xNow x) n k))))) = some (((1 : Int32) <<< (nI n &&& 31) - 1) &&& (nI (hbN (wks (xNow x) n k) n) ^^^ -1)) := by
        unfold f_X8_forgottenBits
        have e1 : f_X8_hereBits (wks (xNow x) n k) = some (nI (hbN (wks (xNow x) n k) n)) := hb_X hI
        have e2 : gV_people (wks (xNow x) n k) = nI n := hI.pe
        show (f_X8_hereBits (wks (xNow x) n k)).bind _ = _
        rw [e1, Option.bind_some]
        show some (((1 : Int32) <<< (gV_people (wks (xNow x) n k) &&& 31) - 1) &&& _) = _
        rw [e2]
      rw [Option.bind_some, ref1, cnt_0, Option.bind_some, if_pos rfl, af_X h.iv (by omega) h.th (by omega), Option.bind_some, e, Option.bind_some]
    · have e : f_X11_hereIn (gD_m (sD_m d r)) = some (nI (hbN (wks (xNow x) n k) n)) := hb_M hI g1
      have e2 : gD_m (sD_m d r) 0 = nI n := g1.pe.trans hI.pe
      rw [Option.bind_some, if_pos rfl, g2, Option.bind_some, ck0, cl0, e, Option.bind_some, e2]
  · rw [show f_X11_wrongBy v (0 : Int32) (99 : Int32) = some c from e3]
    refine OK_ref h hc ?_ ?_
    · rw [Option.bind_some, ref1, cnt_c hc, Option.bind_some, if_neg hc.ne]
    · rw [Option.bind_some, if_neg hc.ne, no_M hc, Option.bind_some]
theorem nn_X {G : Nat} (h : G ≤ 100) : f_X10_noneIfNever (nI G) = some (if G = 100 then -9 else nI G) := by
  unfold f_X10_noneIfNever
  by_cases g : G = 100
  · rw [if_pos g, g]; rfl
  · rw [if_neg g, if_neg]
    rw [l100, ieq (by omega) (by decide)]; exact g
theorem m_goes {n W : Nat} {x : XS} {d : DS} (h : XR n W x d) (a : Int32) : OKi (f_X10_goes x a) (f_X11_goes d a) := by
  have hn := h.iv.n8
  have hw := h.w
  unfold f_X10_goes f_X11_goes
  rcases nob h a with ⟨p, hp, rfl, e1, e2⟩ | ⟨e1, e2, -⟩
  · rw [e1, e2]
    have hR9 : RV (xNow x) (gD_m (sD_m (sD_s d (gD_s d, cpT (gD_s d) (gD_m d) 99).1) (gD_s d, cpT (gD_s d) (gD_m d) 99).2)) := RV_cp (gD_m d) h.rv
    obtain ⟨r, g1, g2⟩ := gi_M h.iv (show p < 8 by omega) _ hR9
    refine ⟨(if gu (xNow x) n p = 100 then -9 else nI (gu (xNow x) n p)), sX_mind x (sM_then (gX_mind x) (wks (xNow x) n (gu (xNow x) n p))), sD_m d r, n, W, ?_, ?_, XR_then h (IV_wks h.iv _).any r⟩
    · have e : f_X3_untilForgotten (gX_mind x) (nI p) = some (nI (gu (xNow x) n p), sM_then (gX_mind x) (wks (xNow x) n (gu (xNow x) n p))) := by
        unfold f_X3_untilForgotten
        have e5 : f_X8_passUntilForgotten (gM_then (sM_then (gX_mind x) (xNow x))) (nI p) = some (nI (gu (xNow x) n p), wks (xNow x) n (gu (xNow x) n p)) := pu_X h.iv (by omega) (by omega)
        rw [sa_X h.iv h.th, Option.bind_some, e5, Option.bind_some]
      have hle := gu_le (xNow x) n p
      rw [Option.bind_some, ref1, cnt_0, Option.bind_some, if_pos rfl, e, Option.bind_some]
      have e7 : f_X10_noneIfNever (nI (gu (xNow x) n p), sM_then (gX_mind x) (wks (xNow x) n (gu (xNow x) n p))).1 = some (if gu (xNow x) n p = 100 then -9 else nI (gu (xNow x) n p)) := nn_X hle
      rw [e7, Option.bind_some]
    · rw [Option.bind_some, if_neg (by decide)]
      unfold f_X11_goesOf
      rw [copies_M, Option.bind_some, g2, Option.bind_some, Option.bind_some]
  · rw [e1, e2]
    refine OK_ref h rc1 ?_ ?_
    · rw [Option.bind_some, ref1, cnt_c rc1, Option.bind_some, if_neg rc1.ne]
    · rw [Option.bind_some, if_pos rfl, no_M rc1, Option.bind_some]
