theorem wwh (v : Int32) {hi : Nat} (hh : hi < 2 ^ 31) : (∃ k, k ≤ hi ∧ v = nI k ∧ f_X10_wrongWhat v (nI hi) = some 0 ∧ f_X11_isIn v 0 (nI hi) = some 1) ∨ (f_X10_wrongWhat v (nI hi) = some (-2) ∧ f_X11_isIn v 0 (nI hi) = some 0 ∧ ∀ k, k ≤ hi → ¬ v = nI k) := by
  unfold f_X10_wrongWhat f_X11_isIn
  by_cases g0 : v < 0
  · right
    refine ⟨by rw [if_pos g0], by rw [if_pos g0], fun k hk e => ?_⟩
    rw [e] at g0; exact nI_pos (by omega) g0
  · by_cases g2 : v ≤ nI hi
    · left
      obtain ⟨k, hk, e⟩ := nI_of2 (x := v) (M := nI hi) (n := hi) (nI_toInt hh) g0 g2
      exact ⟨k, hk, e, by rw [if_neg g0, if_pos g2], by rw [if_neg g0, if_neg (Int32.not_lt.mpr g2)]⟩
    · right
      refine ⟨by rw [if_neg g0, if_neg g2], by rw [if_neg g0, if_pos (Int32.not_le.mp g2)], fun k hk e => ?_⟩
      rw [e, ile (by omega) hh] at g2; exact g2 hk
theorem hi_eq {W : Nat} (hW : W ≤ 999) : (if ((999 : Int32) - nI W) < (60 : Int32) then ((999 : Int32) - nI W) else (60 : Int32)) = nI (if 999 - W < 60 then 999 - W else 60) := by
  rw [show (999 : Int32) = nI 999 from rfl, pk_sub hW, show (60 : Int32) = nI 60 from rfl]
  by_cases g : 999 - W < 60
  · rw [if_pos g, if_pos]
    rw [ilt (by omega) (by decide)]; exact g
  · rw [if_neg g, if_neg]
    rw [ilt (by omega) (by decide)]; exact g
theorem m_weeks {n W : Nat} {x : XS} {d : DS} (h : XR n W x d) (v : Int32) : OKi (f_X10_weeks x v) (f_X11_weeks d v) := by
  have hn := h.iv.n8
  have hw := h.w
  have hwk : gV_week (gM_now (gX_mind x)) = nI W := h.iv.wk
  unfold f_X10_weeks f_X11_weeks
  rw [hwk, hi_eq hw, out_eq, ck1, cl1, h.rv.we, hwk]
  have key : ∀ c, RC c → f_X11_wrongBy v (1 : Int32) (nI (if 999 - W < 60 then 999 - W else 60)) = some c → (f_X11_wrongBy v (1 : Int32) (nI (if 999 - W < 60 then 999 - W else 60))).bind (fun z19 => ((f_X10_refused x z19).bind fun z22 => (if z22.1 = 0 then ((f_X8_passWeeks (gM_now (gX_mind z22.2)) v).bind fun z37 => ((f_X8_countHere (gM_now (gX_mind (sX_mind z22.2 (sM_now (gX_mind z22.2) z37))))).bind fun z44 => (some (z44, (sX_mind z22.2 (sM_now (gX_mind z22.2) z37)))))) else (some (z22.1, z22.2))))) = some (c, bX x (cj c)) := by
    intro c hc e
    rw [e, Option.bind_some, ref1, cnt_c hc, Option.bind_some, if_neg hc.ne]
  by_cases g1 : (1 : Int32) ≤ v
  · rw [if_pos g1]
    by_cases g2 : v ≤ (60 : Int32)
    · rw [if_neg (Int32.not_lt.mpr g2)]
      have g0 : ¬ v < 0 := by
        intro g0
        have h1 := Int32.le_iff_toInt_le.mp g1
        have h2 := Int32.lt_iff_toInt_lt.mp g0
        rw [show (1 : Int32).toInt = 1 by decide] at h1
        rw [Int32.toInt_zero] at h2
        omega
      obtain ⟨k, hk, rfl⟩ := nI_of2 (x := v) (M := 60) (n := 60) (by decide) g0 g2
      have hk1 : 1 ≤ k := by rw [l1, ile (by decide) (by omega)] at g1; exact g1
      rw [nI_add, show (999 : Int32) = nI 999 from rfl]
      simp (disch := omega) only [ile]
      by_cases g3 : W + k ≤ 999
      · rw [if_pos g3]
        have e0 : f_X11_wrongBy (nI k) (1 : Int32) (nI (if 999 - W < 60 then 999 - W else 60)) = some 0 := by
          unfold f_X11_wrongBy
          rw [if_pos g1, if_pos]
          rw [ile (by omega) (by split <;> omega)]
          split <;> omega
        obtain ⟨r, k1, k2⟩ := wks_M h.iv h.rv (show k ≤ 100 by omega)
        have hI := IV_wks h.iv k
        refine ⟨nI (cnt (wks (xNow x) n k) n), sX_mind x (sM_now (gX_mind x) (wks (xNow x) n k)), sD_s d r, n, W + k, ?_, ?_, XR_now h hI g3 k1⟩
        · have ea : f_X8_passWeeks (gM_now (gX_mind x)) (nI k) = some (wks (xNow x) n k) := wks_X h.iv (by omega) (by omega)
          have eb : f_X8_countHere (gM_now (gX_mind (sX_mind x (sM_now (gX_mind x) (wks (xNow x) n k))))) = some (nI (cnt (wks (xNow x) n k) n)) := ch_cnt hI
          rw [e0, Option.bind_some, ref1, cnt_0, Option.bind_some, if_pos rfl, ea, Option.bind_some, eb, Option.bind_some]
        · have ea : f_X11_hereIn (gD_s (sD_s d r)) = some (nI (hbN (wks (xNow x) n k) n)) := hb_M hI k1
          rw [k2, Option.bind_some, ea, Option.bind_some, bc_M (hbN_256 _ hn), Option.bind_some]
          rfl
      · rw [if_neg g3]
        refine OK_ref h rc6 (key _ rc6 ?_) ?_
        · unfold f_X11_wrongBy
          rw [if_pos g1, if_neg]
          rw [ile (by omega) (by split <;> omega)]
          split <;> omega
        · unfold f_X11_weeks_32; rw [no_M rc6, Option.bind_some]
    · rw [if_pos (Int32.not_le.mp g2)]
      refine OK_ref h rc6 (key _ rc6 ?_) ?_
      · unfold f_X11_wrongBy
        rw [if_pos g1, if_neg]
        intro g
        refine g2 (Int32.le_iff_toInt_le.mpr ?_)
        have h1 := Int32.le_iff_toInt_le.mp g
        rw [nI_toInt (by split <;> omega)] at h1
        rw [show (60 : Int32).toInt = 60 by decide]
        split at h1 <;> omega
      · unfold f_X11_weeks_32; rw [no_M rc6, Option.bind_some]
  · rw [if_neg g1]
    refine OK_ref h rc4 (key _ rc4 ?_) ?_
    · unfold f_X11_wrongBy
      rw [if_neg g1]
    · rw [no_M rc4, Option.bind_some]
theorem m_least0 {n W : Nat} {x : XS} {d : DS} (h : XR n W x d) : f_X8_leastKnown (xNow x) = some (ls (xNow x) n) ∧ f_X11_leastIn (gD_s d) = some (ls (xNow x) n) := ⟨ls_X h.iv, ls_M h.iv h.rv⟩
theorem m_row {n W : Nat} {x : XS} {d : DS} (h : XR n W x d) (v : Int32) : OKi (f_X10_row x v) (f_X11_row d v) := by
  obtain ⟨L, hL, e1, e2, e3⟩ := h.2.2.2.2.2.2.2.2.2
  have hf : f_X6_isFull (gM_row (gX_mind x)) = some (if L < 16 then 0 else 1) := by
    unfold f_X6_isFull
    rw [e1, show (16 : Int32) = nI 16 from rfl]
    simp (disch := omega) only [ilt]
    split <;> rfl
  unfold f_X10_row f_X11_row
  rw [out_eq, hf]
  rcases rng v (lo := 0) (hi := 99) (by decide) (by decide) with ⟨k, -, hk, rfl, e4⟩ | ⟨c, hc, e4⟩
  · rw [show f_X11_wrongBy (nI k) (0 : Int32) (99 : Int32) = some 0 from e4, Option.bind_some, Option.bind_some, Option.bind_some, if_pos rfl, e2, show (16 : Int32) = nI 16 from rfl]
    simp (disch := omega) only [ieq]
    by_cases g : L < 16
    · rw [if_pos g, if_pos rfl, if_neg (by omega)]
      unfold f_X10_row_24 f_X11_row_24
      rw [ref2, if_pos rfl, cnt_0, Option.bind_some, if_pos rfl, if_pos rfl, e2]
      unfold f_X6_add
      have e5 : gR_size (gM_row (gX_mind x)) = nI L := e1
      refine ⟨nI (L + 1), sX_mind x (sM_row (gX_mind x) (upd (gR_num (gM_row (gX_mind x))) L (nI k), nI (L + 1))), sD_rowN (sD_row d (upd (gD_row d) L (nI k))) (nI (L + 1)), n, W, ?_, ?_, ⟨h.1, h.2.1, h.2.2.1, h.2.2.2.1, h.2.2.2.2.1, h.2.2.2.2.2.1, h.2.2.2.2.2.2.1, h.2.2.2.2.2.2.2.1, h.2.2.2.2.2.2.2.2.1, L + 1, by omega, rfl, rfl, fun i hi => ?_⟩⟩
      · show (ck (gR_size (gM_row (gX_mind x))) 16 ((some (gR_size (gM_row (gX_mind x)) + 1)).bind _)).bind _ = _
        rw [e5, ck_ok g (by decide), Option.bind_some, i1, Option.bind_some, icl (by omega)]
      · rw [ck_ok g (by decide), Option.bind_some, i1, icl (by omega)]
      · show upd (gR_num (gM_row (gX_mind x))) L (nI k) i = upd (gD_row d) L (nI k) i ∧ ∃ c, c < 100 ∧ upd (gD_row d) L (nI k) i = nI c
        by_cases g9 : i = L
        · rw [g9, us, us]; exact ⟨rfl, k, by omega, rfl⟩
        · rw [un g9, un g9]; exact e3 i (by omega)
    · rw [if_neg g, if_neg (by decide), if_pos (by omega)]
      unfold f_X10_row_24 f_X11_row_24
      refine OK_ref h rc6 ?_ ?_
      · rw [ref2, if_pos rfl, cnt_c rc6, Option.bind_some, if_neg rc6.ne]
      · rw [if_neg rc6.ne, no_M rc6, Option.bind_some]
  · rw [show f_X11_wrongBy v (0 : Int32) (99 : Int32) = some c from e4, Option.bind_some, Option.bind_some, Option.bind_some, if_neg hc.ne]
    refine OK_ref h hc ?_ ?_
    · have e9 : ∀ y0 : Int32, f_X10_row_24 v x y0 c = some (c, bX x (cj c)) := by
        intro y0
        unfold f_X10_row_24
        rw [ref2, if_neg hc.ne, cnt_c hc, Option.bind_some, if_neg hc.ne]
      rw [e9, e9, ite_self]
    · unfold f_X11_row_24
      rw [if_neg hc.ne, no_M hc, Option.bind_some]
