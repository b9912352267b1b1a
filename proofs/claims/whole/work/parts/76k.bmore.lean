theorem m_count {n W : Nat} {x : XS} {d : DS} (h : XR n W x d) (v : Int32) : OKr (f_X10_count x v) (f_X11_count d v) := by
  obtain ⟨L, hL, e1, e2, -⟩ := h.2.2.2.2.2.2.2.2.1
  obtain ⟨R, hR, e3, e4, -⟩ := h.2.2.2.2.2.2.2.2.2
  have tab : OKr (f_X10_count_22 x v) (if v = 0 then (ck v 99 (some ((gD_s d) (Int32.toNatClampNeg v)))) else (if v = 1 then (ck v 99 (some ((gD_s d) (Int32.toNatClampNeg v)))) else (if v = 2 then ((f_X11_hereIn (gD_s d)).bind fun z83 => (some z83)) else (if v = 3 then (ck (2 : Int32) 99 (some ((gD_s d) (Int32.toNatClampNeg (2 : Int32))))) else (if v = 4 then ((f_X11_knownAll (gD_s d)).bind fun z98 => (some z98)) else (if v = 5 then (f_X11_count_104 d  smN (0 : Int32) (0 : Int32)) else (if v = 6 then (some (gD_rowN d)) else (if v = 7 then (some (gD_letN d)) else (some ((-9) : Int32)))))))))) := by
    unfold f_X10_count_22
    by_cases g0 : v = 0
    · rw [if_pos g0, if_pos g0, g0, ck0, cl0, h.rv.pe]; exact ⟨_, rfl, rfl⟩
    rw [if_neg g0, if_neg g0]
    by_cases g1 : v = 1
    · rw [if_pos g1, if_pos g1, g1, ck1, cl1, h.rv.we]; exact ⟨_, rfl, rfl⟩
    rw [if_neg g1, if_neg g1]
    by_cases g2 : v = 2
    · have e : f_X8_hereBits (gM_now (gX_mind x)) = some (nI (hbN (xNow x) n)) := hb_X h.iv
      rw [if_pos g2, if_pos g2, e, hb_M h.iv h.rv]; exact ⟨_, rfl, rfl⟩
    rw [if_neg g2, if_neg g2]
    by_cases g3 : v = 3
    · rw [if_pos g3, if_pos g3, ck2, cl2, h.rv.na]; exact ⟨_, rfl, rfl⟩
    rw [if_neg g3, if_neg g3]
    by_cases g4 : v = 4
    · have e : f_X8_knownTogether (gM_now (gX_mind x)) = some (ktT (xNow x) n n) := kt_X h.iv
      rw [if_pos g4, if_pos g4, e, kt_M h.iv h.rv]; exact ⟨_, rfl, rfl⟩
    rw [if_neg g4, if_neg g4]
    by_cases g5 : v = 5
    · have e : f_X8_owedTogether (gM_now (gX_mind x)) = some (owT (xNow x) n) := ow_X h.iv
      rw [if_pos g5, if_pos g5, e, ow_M h.iv h.rv]; exact ⟨_, rfl, rfl⟩
    rw [if_neg g5, if_neg g5]
    by_cases g6 : v = 6
    · rw [if_pos g6, if_pos g6, e3, e4]; exact ⟨_, rfl, rfl⟩
    rw [if_neg g6, if_neg g6]
    by_cases g7 : v = 7
    · rw [if_pos g7, if_pos g7, e1, e2]; exact ⟨_, rfl, rfl⟩
    rw [if_neg g7, if_neg g7]
    exact ⟨_, rfl, rfl⟩
  unfold f_X10_count f_X11_count f_X11_isIn
  by_cases g1 : v < (11 : Int32)
  · rw [if_pos g1, if_pos g1, Option.bind_some, if_pos rfl]; exact tab
  rw [if_neg g1, if_neg g1]
  by_cases g2 : (16 : Int32) < v
  · rw [if_pos g2, if_pos g2, Option.bind_some, if_pos rfl]; exact tab
  rw [if_neg g2, if_neg g2, Option.bind_some, if_neg (by decide)]
  have g0 : ¬ v < 0 := by
    intro g
    have q1 := Int32.le_iff_toInt_le.mp (Int32.not_lt.mp g1)
    have q2 := Int32.lt_iff_toInt_lt.mp g
    rw [show (11 : Int32).toInt = 11 by decide] at q1
    rw [Int32.toInt_zero] at q2
    omega
  obtain ⟨k, hk, e⟩ := nI_of2 (x := v) (M := 16) (n := 16) (by decide) g0 (Int32.not_lt.mp g2)
  have hk1 : 11 ≤ k := by
    have q1 := Int32.le_iff_toInt_le.mp (Int32.not_lt.mp g1)
    rw [show (11 : Int32).toInt = 11 by decide, e, nI_toInt (by omega)] at q1
    omega
  have e5 : v - (10 : Int32) = nI (k - 10) := by rw [e, l10, pk_sub (by omega)]
  rw [e5, ck_ok (by omega) (by decide), ck_ok (by omega) (by decide), icl (by omega), h.2.2.2.2.2.2.2.1 (k - 10) (by omega)]
  exact ⟨_, rfl, rfl⟩
