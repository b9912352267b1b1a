theorem fgo {n W : Nat} {x : XS} {d : DS} (h : XR n W x d) {p : Nat} (hp : p < n) : f_X10_forgotten x (nI p) = some (if gV_here (xNow x) p = 0 then -3 else 0) := by
  have hn := h.iv.n8
  unfold f_X10_forgotten
  rw [has_X h.iv hp, Option.bind_some, if_neg (by decide), ck_ok (by omega) (by decide), icl (by omega)]
  split <;> rfl
theorem fgo_any {n W : Nat} {x : XS} {d : DS} (h : XR n W x d) (a : Int32) : ∃ c, f_X10_forgotten x a = some c := by
  rcases who h.iv.n8 a with ⟨p, hp, rfl⟩ | ⟨g, -⟩
  · exact ⟨_, fgo h hp⟩
  · refine ⟨0, ?_⟩
    unfold f_X10_forgotten
    rw [has_X0 h.iv g]; rfl
theorem m_speaks {n W : Nat} {x : XS} {d : DS} (h : XR n W x d) (a b : Int32) : OKi (f_X10_speaks x a b) (f_X11_speaks d a b) := by
  have hn := h.iv.n8
  unfold f_X10_speaks f_X11_speaks
  rcases ntwo h a b with ⟨p, q, hp, hq, hpq, rfl, rfl, e1, e2⟩ | ⟨e1, e2⟩
  · have m1 := here_M h.iv h.rv (show p < 8 by omega)
    have m2 := here_M h.iv h.rv (show q < 8 by omega)
    by_cases g1 : gV_here (xNow x) p = 0
    · have f1 : f_X10_forgotten x (nI p) = some (-3) := by rw [fgo h hp, if_pos g1]
      obtain ⟨c2, f2⟩ := fgo_any h (nI q)
      refine OK_ref h rc3 ?_ ?_
      · rw [e1, f1, f2, Option.bind_some, Option.bind_some, Option.bind_some, ref3, if_pos rfl, if_neg rc3.ne, cnt_c rc3, Option.bind_some, if_neg rc3.ne]
      · rw [e2, Option.bind_some, if_neg (by decide), m1, Option.bind_some, if_pos g1]; unfold f_X11_speaks_37; rw [no_M rc3, Option.bind_some]
    · have f1 : f_X10_forgotten x (nI p) = some 0 := by rw [fgo h hp, if_neg g1]
      by_cases g2 : gV_here (xNow x) q = 0
      · have f2 : f_X10_forgotten x (nI q) = some (-3) := by rw [fgo h hq, if_pos g2]
        refine OK_ref h rc3 ?_ ?_
        · rw [e1, f1, f2, Option.bind_some, Option.bind_some, Option.bind_some, ref3, if_pos rfl, if_pos rfl, cnt_c rc3, Option.bind_some, if_neg rc3.ne]
        · rw [e2, Option.bind_some, if_neg (by decide), m1, Option.bind_some, if_neg g1, m2, Option.bind_some, if_pos g2]; unfold f_X11_speaks_37; rw [no_M rc3, Option.bind_some]
      · have f2 : f_X10_forgotten x (nI q) = some 0 := by rw [fgo h hq, if_neg g2]
        obtain ⟨r, k1, k2⟩ := tlk_M h.rv (show p < 8 by omega) (show q < 8 by omega)
        have hI := IV_tlk h.iv (show p < 8 by omega) (show q < 8 by omega)
        refine ⟨gV_mem (tlk (xNow x) p q) (8 * p + q) + gV_mem (tlk (xNow x) p q) (8 * q + p), sX_mind x (sM_now (gX_mind x) (tlk (xNow x) p q)), sD_s d r, n, W, ?_, ?_, XR_now h hI h.w k1⟩
        · have ea : f_X8_memoryOf (gM_now (gX_mind (sX_mind x (sM_now (gX_mind x) (tlk (xNow x) p q))))) (nI p) (nI q) = some (gV_mem (tlk (xNow x) p q) (8 * p + q)) := mo_X _ (by omega) (by omega)
          have eb : f_X8_memoryOf (gM_now (gX_mind (sX_mind x (sM_now (gX_mind x) (tlk (xNow x) p q))))) (nI q) (nI p) = some (gV_mem (tlk (xNow x) p q) (8 * q + p)) := mo_X _ (by omega) (by omega)
          rw [e1, f1, f2, Option.bind_some, Option.bind_some, Option.bind_some, ref3, if_pos rfl, if_pos rfl, cnt_0, Option.bind_some, if_pos rfl, tlk_X _ (by omega) (by omega), Option.bind_some, ea, Option.bind_some, eb, Option.bind_some]
        · have ea : gD_s (sD_s d r) (35 + 8 * p + q) = gV_mem (tlk (xNow x) p q) (8 * p + q) := k1.me (by omega) (by omega)
          have eb : gD_s (sD_s d r) (35 + 8 * q + p) = gV_mem (tlk (xNow x) p q) (8 * q + p) := k1.me (by omega) (by omega)
          rw [e2, Option.bind_some, if_neg (by decide), m1, Option.bind_some, if_neg g1, m2, Option.bind_some, if_neg g2, k2, Option.bind_some, f_by, Option.bind_some, ck_ok (by omega) (by decide), f_by, Option.bind_some, ck_ok (by omega) (by decide), icl (by omega), icl (by omega), ea, eb]
  · obtain ⟨c1, f1⟩ := fgo_any h a
    obtain ⟨c2, f2⟩ := fgo_any h b
    rw [e1, e2, f1, f2]
    refine OK_ref h rc1 ?_ ?_
    · rw [Option.bind_some, Option.bind_some, Option.bind_some, ref3, if_neg rc1.ne, cnt_c rc1, Option.bind_some, if_neg rc1.ne]
    · rw [Option.bind_some, if_pos rfl, no_M rc1, Option.bind_some]
theorem cnt_M {u : VS} {r : Nat → Int32} {n W : Nat} (hI : IV n W u) (hR : RV u r) : (f_X11_hereIn r).bind (fun z => f_X11_bits z) = some (nI (cnt u n)) := by
  rw [hb_M hI hR, Option.bind_some, bc_M (hbN_256 u hI.n8)]
  rfl
theorem m_back {n W : Nat} {x : XS} {d : DS} (h : XR n W x d) (a : Int32) : OKi (f_X10_back x a) (f_X11_back d a) := by
  have hn := h.iv.n8
  unfold f_X10_back f_X11_back
  rcases nob h a with ⟨p, hp, rfl, e1, e2⟩ | ⟨e1, e2, e3⟩
  · have eh : f_X8_isHere (gM_now (gX_mind x)) (nI p) = some (gV_here (xNow x) p) := by
      unfold f_X8_isHere
      have e9 : f_X8_has (gM_now (gX_mind x)) (nI p) = some 1 := has_X h.iv hp
      rw [e9, Option.bind_some, if_neg (by decide), ck_ok (by omega) (by decide), icl (by omega)]
      rcases h.iv.he (show p < 8 by omega) with g | g <;> rw [g] <;> rfl
    have m1 := here_M h.iv h.rv (show p < 8 by omega)
    by_cases g1 : gV_here (xNow x) p = 0
    · rw [g1] at eh
      obtain ⟨r, k1, k2⟩ := bck_M h.iv h.rv (show p < 8 by omega) g1
      have hI := IV_bck h.iv (show p < 8 by omega)
      refine ⟨nI (cnt (bck (xNow x) n p) n), sX_mind x (sM_now (gX_mind x) (bck (xNow x) n p)), sD_s d r, n, W, ?_, ?_, XR_now h hI h.w k1⟩
      · have ea : f_X8_comeBack (gM_now (gX_mind x)) (nI p) = some (bck (xNow x) n p) := bck_X h.iv (by omega)
        have eb : f_X8_countHere (gM_now (gX_mind (sX_mind x (sM_now (gX_mind x) (bck (xNow x) n p))))) = some (nI (cnt (bck (xNow x) n p) n)) := ch_cnt hI
        rw [e1, eh, Option.bind_some, Option.bind_some, if_pos rfl]
        unfold f_X10_back_23
        rw [ref2, if_pos rfl, cnt_0, Option.bind_some, if_pos rfl, ea, Option.bind_some, eb, Option.bind_some]
      · have ea : f_X11_hereIn (gD_s (sD_s d r)) = some (nI (hbN (bck (xNow x) n p) n)) := hb_M hI k1
        rw [e2, Option.bind_some, if_neg (by decide), m1, Option.bind_some, if_pos g1, k2, Option.bind_some, ea, Option.bind_some, bc_M (hbN_256 _ hn), Option.bind_some]
        rfl
    · have g2 : gV_here (xNow x) p = 1 := (h.iv.he (show p < 8 by omega)).resolve_left g1
      rw [g2] at eh
      refine OK_ref h rc3 ?_ ?_
      · rw [e1, eh, Option.bind_some, Option.bind_some, if_neg (by decide)]
        unfold f_X10_back_23
        rw [ref2, if_pos rfl, cnt_c rc3, Option.bind_some, if_neg rc3.ne]
      · rw [e2, Option.bind_some, if_neg (by decide), m1, Option.bind_some, if_neg g1, no_M rc3, Option.bind_some]
  · have eh : f_X8_isHere (gM_now (gX_mind x)) a = some 0 := by
      unfold f_X8_isHere
      have e9 : f_X8_has (gM_now (gX_mind x)) a = some 0 := e3
      rw [e9]; rfl
    rw [e1, e2, eh]
    refine OK_ref h rc1 ?_ ?_
    · rw [Option.bind_some, Option.bind_some, if_pos rfl]
      unfold f_X10_back_23
      rw [ref2, if_neg rc1.ne, cnt_c rc1, Option.bind_some, if_neg rc1.ne]
    · rw [Option.bind_some, if_pos rfl, no_M rc1, Option.bind_some]
theorem m_clear {n W : Nat} {x : XS} {d : DS} (h : XR n W x d) : OKi (f_X10_clear x) (f_X11_clear d) := by
  obtain ⟨L, hL, e1, e2, -⟩ := h.2.2.2.2.2.2.2.2.2
  unfold f_X10_clear f_X11_clear f_X6_empty
  refine ⟨nI L, sX_mind x (sM_row (gX_mind x) (sR_size (gM_row (gX_mind x)) 0)), sD_rowN d 0, n, W, ?_, ?_, ⟨h.1, h.2.1, h.2.2.1, h.2.2.2.1, h.2.2.2.2.1, h.2.2.2.2.2.1, h.2.2.2.2.2.2.1, h.2.2.2.2.2.2.2.1, h.2.2.2.2.2.2.2.2.1, 0, by decide, rfl, rfl, fun i hi => absurd hi (Nat.not_lt_zero i)⟩⟩
  · rw [Option.bind_some, e1]
  · rw [e2]
theorem m_image {n W : Nat} {x : XS} {d : DS} (h : XR n W x d) : OKi (f_X10_image x) (f_X11_image d) := by
  have hk := h.2.2.2.2.2.2.1.1
  unfold f_X10_image f_X11_image
  rw [copies_M, copy_X hk.nz h.iv]
  refine ⟨gV_week (xNow x), sX_img (sX_kept x (xNow x)) 1, sD_has (sD_image d (cpT (gD_s d) (gD_image d) 99)) 1, n, W, ?_, ?_, ⟨h.1, h.2.1, h.2.2.1, h.2.2.2.1, h.2.2.2.2.1, h.2.2.2.2.2.1, ⟨h.iv.any, Or.inr ⟨rfl, rfl, n, W, h.w, h.iv, RV_cp _ h.rv⟩⟩, h.2.2.2.2.2.2.2⟩⟩
  · rw [Option.bind_some]
  · rw [Option.bind_some, ck1, cl1]
    have e : gD_s (sD_has (sD_image (sD_s d (gD_s d, cpT (gD_s d) (gD_image d) 99).1) (gD_s d, cpT (gD_s d) (gD_image d) 99).2) 1) 1 = gV_week (xNow x) := h.rv.we
    rw [e]
theorem m_on {n W : Nat} {x : XS} {d : DS} (h : XR n W x d) : OKi (f_X10_on x) (f_X11_on d) := by
  obtain ⟨hk, hi⟩ := h.2.2.2.2.2.2.1
  unfold f_X10_on f_X11_on
  rcases hi with ⟨e1, e2⟩ | ⟨e1, e2, n', W', hw, hI, hR⟩
  · refine OK_ref h rc3 ?_ ?_
    · rw [e1, if_pos rfl]
      unfold f_X10_on_14
      rw [ref1, cnt_c rc3, Option.bind_some, if_neg rc3.ne]
    · rw [e2, if_pos rfl, no_M rc3, Option.bind_some]
  · refine ⟨gV_week (gX_kept x), sX_mind x (sM_now (gX_mind x) (gX_kept x)), sD_s d (cpT (gD_image d) (gD_s d) 99), n', W', ?_, ?_, XR_now h hI hw (RV_cp _ hR)⟩
    · rw [e1, if_neg (by decide)]
      unfold f_X10_on_14
      rw [ref1, cnt_0, Option.bind_some, if_pos rfl, copy_X h.iv.nz hI, Option.bind_some]
    · rw [e2, if_neg (by decide), copies_M, Option.bind_some, ck1, cl1]
      have e : gD_s (sD_s (sD_image d (gD_image d, cpT (gD_image d) (gD_s d) 99).1) (gD_image d, cpT (gD_image d) (gD_s d) 99).2) 1 = gV_week (gX_kept x) := (RV_cp (gD_s d) hR).we
      rw [e]
