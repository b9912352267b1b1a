theorem m_letter {n W : Nat} {x : XS} {d : DS} (h : XR n W x d) (v : Int32) : OKi (f_X10_letter x v) (f_X11_letter d v) := by
  obtain ⟨L, hL, e1, e2, e3⟩ := h.2.2.2.2.2.2.2.2.1
  have hf : f_X7_isFull (gX_tell x) = some (if L < 96 then 0 else 1) := by
    unfold f_X7_isFull
    rw [e1, show (96 : Int32) = nI 96 from rfl]
    simp (disch := omega) only [ilt]
    split <;> rfl
  unfold f_X10_letter f_X11_letter
  rw [out_eq, hf]
  have e255 : (255 : Int32) = nI 255 := rfl
  have key : ∀ (c y0 : Int32), RC c → f_X10_letter_25 v x y0 c = some (c, bX x (cj c)) := by
    intro c y0 hc
    unfold f_X10_letter_25
    rw [ref2, if_neg hc.ne, cnt_c hc, Option.bind_some, if_neg hc.ne]
  by_cases g1 : (0 : Int32) ≤ v
  · rw [if_pos g1]
    by_cases g2 : v ≤ (255 : Int32)
    · rw [if_neg (Int32.not_lt.mpr g2)]
      have e4 : f_X11_wrongBy v (0 : Int32) (255 : Int32) = some 0 := by unfold f_X11_wrongBy; rw [if_pos g1, if_pos g2]
      obtain ⟨k, hk, rfl⟩ := nI_of2 (x := v) (M := 255) (n := 255) (by decide) (Int32.not_lt.mpr g1) g2
      rw [e4, Option.bind_some, Option.bind_some, e2, show (96 : Int32) = nI 96 from rfl]
      simp (disch := omega) only [ieq]
      by_cases g : L < 96
      · rw [if_pos g, if_pos rfl, if_neg (by omega)]
        unfold f_X10_letter_25
        rw [ref2, if_pos rfl, cnt_0, Option.bind_some, if_pos rfl]
        unfold f_X7_add
        have e5 : gT_size (gX_tell x) = nI L := e1
        refine ⟨nI (L + 1), sX_tell x (upd (gT_let (gX_tell x)) L (nI k), nI (L + 1)), sD_letN (sD_let d (upd (gD_let d) L (nI k))) (nI (L + 1)), n, W, ?_, ?_, ⟨h.1, h.2.1, h.2.2.1, h.2.2.2.1, h.2.2.2.2.1, h.2.2.2.2.2.1, h.2.2.2.2.2.2.1, h.2.2.2.2.2.2.2.1, ⟨L + 1, by omega, rfl, rfl, fun i hi => ?_⟩, h.2.2.2.2.2.2.2.2.2⟩⟩
        · show (ck (gT_size (gX_tell x)) 96 ((some (gT_size (gX_tell x) + 1)).bind _)).bind _ = _
          rw [e5, ck_ok g (by decide), Option.bind_some, i1, Option.bind_some, icl (by omega)]
        · rw [ck_ok g (by decide)]
          rw [Option.bind_some, i1, icl (by omega)]
        · show upd (gT_let (gX_tell x)) L (nI k) i = upd (gD_let d) L (nI k) i ∧ ∃ c, c < 256 ∧ upd (gD_let d) L (nI k) i = nI c
          by_cases g9 : i = L
          · rw [g9, us, us]; exact ⟨rfl, k, by omega, rfl⟩
          · rw [un g9, un g9]; exact e3 i (by omega)
      · rw [if_neg g, if_neg (by decide), if_pos (by omega)]
        refine OK_ref h rc6 ?_ ?_
        · unfold f_X10_letter_25
          rw [ref2, if_pos rfl, cnt_c rc6, Option.bind_some, if_neg rc6.ne]
        · unfold f_X11_letter_27; rw [no_M rc6, Option.bind_some]
    · rw [if_pos (Int32.not_le.mp g2)]
      have e4 : f_X11_wrongBy v (0 : Int32) (255 : Int32) = some (-6) := by unfold f_X11_wrongBy; rw [if_pos g1, if_neg g2]
      rw [e4, Option.bind_some, Option.bind_some, key _ _ rc6, key _ _ rc6, ite_self]
      refine OK_ref h rc6 rfl ?_
      unfold f_X11_letter_27; rw [no_M rc6, Option.bind_some]
  · rw [if_neg g1]
    have e4 : f_X11_wrongBy v (0 : Int32) (255 : Int32) = some (-4) := by unfold f_X11_wrongBy; rw [if_neg g1]
    rw [e4, Option.bind_some, Option.bind_some, key _ _ rc4, key _ _ rc4, ite_self]
    refine OK_ref h rc4 rfl ?_
    rw [no_M rc4, Option.bind_some]
theorem mbn_X {u : VS} {n W p : Nat} (hI : IV n W u) (hp : p < 8) : f_X8_mayBeNamed u (nI p) = some (nmv u p) := by
  obtain ⟨kk, hkk, ek⟩ := hI.ki hp
  unfold f_X8_mayBeNamed
  simp (disch := omega) only [icl, ck_ok, nm_X hI hp, Option.bind_some, f_X8_mayBeNamed_20]
  rw [ek, ck_ok hkk (by decide)]
  unfold zr
  rw [if_pos (nmv01 u p)]
theorem m_person {n W : Nat} {x : XS} {d : DS} (h : XR n W x d) (a v : Int32) : OKi (f_X10_person x a v) (f_X11_person d a v) := by
  have hn := h.iv.n8
  unfold f_X10_person f_X11_person
  rcases nob h a with ⟨p, hp, rfl, e1, e2⟩ | ⟨e1, e2, -⟩
  · rw [e1, e2, Option.bind_some, Option.bind_some, if_neg (by decide)]
    have hp8 : p < 8 := by omega
    rcases wwh v (hi := 5) (by decide) with ⟨k, hk, rfl, f1, -⟩ | ⟨f1, -, f3⟩
    · have f1 : f_X10_wrongWhat (nI k) (5 : Int32) = some 0 := f1
      rw [f1, Option.bind_some, ref2, if_pos rfl, cnt_0, Option.bind_some, if_pos rfl]
      have c3 : ∀ j, j ≤ 3 → f_X11_isIn (nI j) (0 : Int32) (3 : Int32) = some 1 := fun j hj => by
        rcases wwh (nI j) (hi := 3) (by decide) with ⟨_, _, _, _, q⟩ | ⟨_, _, q⟩
        · exact q
        · exact absurd rfl (q j hj)
      refine k6 (P := fun k => OKi (if nI k = 0 then (ck (nI p) 8 (some (((gV_kind (gM_now (gX_mind (0, x).2))) (Int32.toNatClampNeg (nI p))), (0, x).2))) else (if nI k = 1 then (ck (nI p) 8 (some (((gV_fig (gM_now (gX_mind (0, x).2))) (Int32.toNatClampNeg (nI p))), (0, x).2))) else (if nI k = 2 then (ck (nI p) 8 (if ((gV_here (gM_now (gX_mind (0, x).2))) (Int32.toNatClampNeg (nI p))) = 0 then (some ((0 : Int32), (0, x).2)) else (some ((1 : Int32), (0, x).2)))) else (if nI k = 3 then (ck (nI p) 8 (some (((gV_owed (gM_now (gX_mind (0, x).2))) (Int32.toNatClampNeg (nI p))), (0, x).2))) else (if nI k = 4 then ((f_X8_knownOf (gM_now (gX_mind (0, x).2)) (nI p)).bind fun z109 => (some (z109, (0, x).2))) else ((f_X8_mayBeNamed (gM_now (gX_mind (0, x).2)) (nI p)).bind fun z118 => (if z118 = 0 then (some ((0 : Int32), (0, x).2)) else (some ((1 : Int32), (0, x).2))))))))) ((f_X11_isIn (nI k) (0 : Int32) (3 : Int32)).bind fun z17 => (if z17 = 0 then (if nI k = (4 : Int32) then ((f_X11_knownIn (gD_s d) (nI p)).bind fun z44 => (some (z44, d))) else (if nI k = (5 : Int32) then ((f_X11_mayBeNamed (gD_s d) (nI p)).bind fun z69 => (if z69 = 0 then (some ((0 : Int32), d)) else (some ((1 : Int32), d)))) else ((f_X11_no d ((-2) : Int32)).bind fun z58 => (some (z58.1, z58.2))))) else ((f_X11_of (nI p) (nI k)).bind fun z29 => (ck z29 99 (some (((gD_s d) (Int32.toNatClampNeg z29)), d))))))) ?_ ?_ ?_ ?_ ?_ ?_ (show k < 6 by omega)
      · refine ⟨gV_kind (xNow x) p, x, d, n, W, ?_, ?_, h⟩
        · rw [if_pos (by decide), ck_ok hp8 (by decide), icl (by omega)]
        · rw [c3 0 (by decide), Option.bind_some, if_neg (by decide), f_of, Option.bind_some, ck_ok (by omega) (by decide), icl (by omega), h.rv.ki hp8]
      · refine ⟨gV_fig (xNow x) p, x, d, n, W, ?_, ?_, h⟩
        · rw [if_neg (by decide), if_pos (by decide), ck_ok hp8 (by decide), icl (by omega)]
        · rw [c3 1 (by decide), Option.bind_some, if_neg (by decide), f_of, Option.bind_some, ck_ok (by omega) (by decide), icl (by omega), h.rv.fi hp8]
      · refine ⟨gV_here (xNow x) p, x, d, n, W, ?_, ?_, h⟩
        · rw [if_neg (by decide), if_neg (by decide), if_pos (by decide), ck_ok hp8 (by decide), icl (by omega)]
          rcases h.iv.he hp8 with g | g
          · have g' : gV_here (gM_now (gX_mind (((0 : Int32), x)).2)) p = 0 := g
            rw [if_pos g', g]
          · have g' : ¬ gV_here (gM_now (gX_mind (((0 : Int32), x)).2)) p = 0 := by
              show ¬ gV_here (xNow x) p = 0
              rw [g]; decide
            rw [if_neg g', g]
        · rw [c3 2 (by decide), Option.bind_some, if_neg (by decide), f_of, Option.bind_some, ck_ok (by omega) (by decide), icl (by omega), h.rv.he hp8]
      · refine ⟨gV_owed (xNow x) p, x, d, n, W, ?_, ?_, h⟩
        · rw [if_neg (by decide), if_neg (by decide), if_neg (by decide), if_pos (by decide), ck_ok hp8 (by decide), icl (by omega)]
        · rw [c3 3 (by decide), Option.bind_some, if_neg (by decide), f_of, Option.bind_some, ck_ok (by omega) (by decide), icl (by omega), h.rv.ow hp8]
      · refine ⟨kn (xNow x) n p, x, d, n, W, ?_, ?_, h⟩
        · have e : f_X8_knownOf (gM_now (gX_mind (((0 : Int32), x)).2)) (nI p) = some (kn (xNow x) n p) := kn_X h.iv hp8
          rw [if_neg (by decide), if_neg (by decide), if_neg (by decide), if_neg (by decide), if_pos (by decide), e, Option.bind_some]
        · rw [show f_X11_isIn (nI 4) (0 : Int32) (3 : Int32) = some 0 by decide, Option.bind_some, if_pos (by decide), if_pos (by decide), kn_M h.iv h.rv hp8, Option.bind_some]
      · refine ⟨nmv (xNow x) p, x, d, n, W, ?_, ?_, h⟩
        · have e : f_X8_mayBeNamed (gM_now (gX_mind (((0 : Int32), x)).2)) (nI p) = some (nmv (xNow x) p) := mbn_X h.iv hp8
          rw [if_neg (by decide), if_neg (by decide), if_neg (by decide), if_neg (by decide), if_neg (by decide), e, Option.bind_some]
          rcases nmv01 (xNow x) p with g | g <;> rw [g] <;> rfl
        · rw [show f_X11_isIn (nI 5) (0 : Int32) (3 : Int32) = some 0 by decide, Option.bind_some, if_pos (by decide), if_neg (by decide), if_pos (by decide), nm_M h.iv h.rv hp8, Option.bind_some]
          rcases nmv01 (xNow x) p with g | g <;> rw [g] <;> rfl
    · have f1 : f_X10_wrongWhat v (5 : Int32) = some (-2) := f1
      have f4 : f_X11_isIn v (0 : Int32) (3 : Int32) = some 0 := by
        rcases wwh v (hi := 3) (by decide) with ⟨j, hj, e, _⟩ | ⟨_, q, _⟩
        · exact absurd e (f3 j (by omega))
        · exact q
      refine OK_ref h rc2 ?_ ?_
      · rw [f1, Option.bind_some, ref2, if_pos rfl, cnt_c rc2, Option.bind_some, if_neg rc2.ne]
      · rw [f4, Option.bind_some, if_pos rfl, if_neg (show ¬ v = (4 : Int32) from f3 4 (by decide)), if_neg (show ¬ v = (5 : Int32) from f3 5 (by decide)), no_M rc2, Option.bind_some]
  · obtain ⟨c9, e9⟩ : ∃ c, f_X10_wrongWhat v (5 : Int32) = some c := by
      rcases wwh v (hi := 5) (by decide) with ⟨_, _, _, q, _⟩ | ⟨q, _, _⟩
      · exact ⟨_, q⟩
      · exact ⟨_, q⟩
    rw [e1, e2, e9]
    refine OK_ref h rc1 ?_ ?_
    · rw [Option.bind_some, Option.bind_some, ref2, if_neg rc1.ne, cnt_c rc1, Option.bind_some, if_neg rc1.ne]
    · rw [Option.bind_some, if_pos rfl, no_M rc1, Option.bind_some]
