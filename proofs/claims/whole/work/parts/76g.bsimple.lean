theorem m_turn {n W : Nat} {x : XS} {d : DS} (h : XR n W x d) (a b v : Int32) : OKi (f_X10_turn x a b v) (f_X11_turn d a b v) := by
  have hn := h.iv.n8
  unfold f_X10_turn f_X11_turn
  rw [out_eq]
  have key : ∀ (c z8 z15 : Int32), RC c → f_X10_counted x c = some (c, bX x (cj c)) := fun c _ _ hc => cnt_c hc x
  obtain ⟨c9, e9⟩ := wb_any v 0 9
  have w9 : ∃ c, f_X10_wrongWhat b (5 : Int32) = some c := by
    rcases wwh b (hi := 5) (by decide) with ⟨_, _, _, q, _⟩ | ⟨q, _, _⟩
    · exact ⟨_, q⟩
    · exact ⟨_, q⟩
  rcases nob h a with ⟨p, hp, rfl, e1, e2⟩ | ⟨e1, e2, -⟩
  · have hp8 : p < 8 := by omega
    rcases wwh b (hi := 5) (by decide) with ⟨kd, hkd, rfl, f1, f2⟩ | ⟨f1, f2, -⟩
    · have f1 : f_X10_wrongWhat (nI kd) (5 : Int32) = some 0 := f1
      have f2 : f_X11_isIn (nI kd) (0 : Int32) (5 : Int32) = some 1 := f2
      rcases rng v (lo := 0) (hi := 9) (by decide) (by decide) with ⟨k, -, hk, rfl, e3⟩ | ⟨c, hc, e3⟩
      · have e3 : f_X11_wrongBy (nI k) (0 : Int32) (9 : Int32) = some 0 := e3
        have k0 : f_X11_of (nI p) (0 : Int32) = some (nI (3 + 4 * p + 0)) := f_of p 0
        have k1 : f_X11_of (nI p) (1 : Int32) = some (nI (3 + 4 * p + 1)) := f_of p 1
        have hI1 : IV n W (sV_kind (xNow x) (upd (gV_kind (xNow x)) p (nI kd))) := IV_kind h.iv hp8 ⟨kd, by omega, rfl⟩
        have hR1 := RV_kind h.rv hp8 (nI kd)
        have hI2 := IV_fig hI1 hp8 (x := nI k) ⟨k, by omega, rfl⟩
        have hR2 := RV_fig hR1 hp8 (nI k)
        refine ⟨(10 : Int32) * gV_kind (xNow x) p + gV_fig (xNow x) p, sX_mind x (sM_now (gX_mind x) (sV_fig (sV_kind (xNow x) (upd (gV_kind (xNow x)) p (nI kd))) (upd (gV_fig (xNow x)) p (nI k)))), sD_s d (upd (upd (gD_s d) (3 + 4 * p + 0) (nI kd)) (3 + 4 * p + 1) (nI k)), n, W, ?_, ?_, XR_now h hI2 h.w hR2⟩
        · rw [e1, f1, e3, Option.bind_some, Option.bind_some, Option.bind_some, ref3, if_pos rfl, if_pos rfl, cnt_0, Option.bind_some, if_pos rfl, ck_ok hp8 (by decide), ck_ok hp8 (by decide), Option.bind_some, ck_ok hp8 (by decide), Option.bind_some, ck_ok hp8 (by decide), Option.bind_some, icl (by omega)]
        · rw [e2, Option.bind_some, if_neg (by decide), f2, Option.bind_some, if_neg (by decide), e3, Option.bind_some]
          unfold f_X11_turn_33
          rw [if_pos rfl, k0, Option.bind_some, ck_ok (by omega) (by decide), k1, Option.bind_some, ck_ok (by omega) (by decide), Option.bind_some, Option.bind_some, ck_ok (by omega) (by decide), Option.bind_some, ck_ok (by omega) (by decide), Option.bind_some, icl (by omega), icl (by omega), h.rv.ki hp8, h.rv.fi hp8]
      · have e3 : f_X11_wrongBy v (0 : Int32) (9 : Int32) = some c := e3
        refine OK_ref h hc ?_ ?_
        · rw [e1, f1, e3, Option.bind_some, Option.bind_some, Option.bind_some, ref3, if_pos rfl, if_pos rfl, cnt_c hc, Option.bind_some, if_neg hc.ne]
        · rw [e2, Option.bind_some, if_neg (by decide), f2, Option.bind_some, if_neg (by decide), e3, Option.bind_some]
          unfold f_X11_turn_33
          rw [if_neg hc.ne, no_M hc, Option.bind_some]
    · have f1 : f_X10_wrongWhat b (5 : Int32) = some (-2) := f1
      have f2 : f_X11_isIn b (0 : Int32) (5 : Int32) = some 0 := f2
      refine OK_ref h rc2 ?_ ?_
      · rw [e1, f1, e9, Option.bind_some, Option.bind_some, Option.bind_some, ref3, if_pos rfl, if_neg rc2.ne, cnt_c rc2, Option.bind_some, if_neg rc2.ne]
      · rw [e2, Option.bind_some, if_neg (by decide), f2, Option.bind_some, if_pos rfl]
        unfold f_X11_turn_33
        rw [if_neg rc2.ne, no_M rc2, Option.bind_some]
  · obtain ⟨c8, e8⟩ := w9
    refine OK_ref h rc1 ?_ ?_
    · rw [e1, e8, e9, Option.bind_some, Option.bind_some, Option.bind_some, ref3, if_neg rc1.ne, cnt_c rc1, Option.bind_some, if_neg rc1.ne]
    · rw [e2, Option.bind_some, if_pos rfl]
      unfold f_X11_turn_33
      rw [if_neg rc1.ne, no_M rc1, Option.bind_some]
/-- known of all who are here, of the first i -/
def ktT (u : VS) (n : Nat) : Nat → Int32
  | 0 => 0
  | i + 1 => if gV_here u i = 0 then ktT u n i else ktT u n i + kn u n i
theorem kt_X {u : VS} {n W : Nat} (hI : IV n W u) : f_X8_knownTogether u = some (ktT u n n) := by
  unfold f_X8_knownTogether f_X8_knownTogether_4
  have hn := hI.n8
  refine lq2_inv (fun i a b => a = ktT u n i ∧ b = nI i) (fun o => o = some (ktT u n n)) n ?_ smN _ _ (smN_gt (by omega)) ⟨rfl, rfl⟩
  rintro i a b hi ⟨rfl, rfl⟩
  unfold b_X8_knownTogether_4
  rw [hI.pe]
  rcases Nat.lt_or_ge i n with h | h
  · left
    refine ⟨ktT u n (i + 1), nI (i + 1), h, ⟨rfl, rfl⟩, fun k => ?_⟩
    simp (disch := omega) only [ile, icl, ck_ok, i1, kn_X hI (show i < 8 by omega), Option.bind_some, Int32.add_zero]
    rw [if_neg (by omega)]
    simp only [ktT]
    split <;> rfl
  · right
    obtain rfl : i = n := by omega
    refine ⟨_, rfl, fun k => ?_⟩
    simp (disch := omega) only [ile]
    rw [if_pos (Nat.le_refl _)]
theorem kt_M {u : VS} {r : Nat → Int32} {n W : Nat} (hI : IV n W u) (hR : RV u r) : f_X11_knownAll r = some (ktT u n n) := by
  unfold f_X11_knownAll f_X11_knownAll_4
  have hn := hI.n8
  refine lq2_inv (fun i a b => a = ktT u n i ∧ b = nI i) (fun o => o = some (ktT u n n)) n ?_ smN _ _ (smN_gt (by omega)) ⟨rfl, rfl⟩
  rintro i a b hi ⟨rfl, rfl⟩
  unfold b_X11_knownAll_4
  simp only [ck0, cl0, hR.pe.trans hI.pe]
  rcases Nat.lt_or_ge i n with h | h
  · left
    refine ⟨ktT u n (i + 1), nI (i + 1), h, ⟨rfl, rfl⟩, fun k => ?_⟩
    rw [here_M hI hR (show i < 8 by omega), kn_M hI hR (show i < 8 by omega)]
    simp (disch := omega) only [ile, i1, Option.bind_some, Int32.add_zero]
    rw [if_neg (by omega)]
    simp only [ktT]
    split <;> rfl
  · right
    obtain rfl : i = n := by omega
    refine ⟨_, rfl, fun k => ?_⟩
    simp (disch := omega) only [ile]
    rw [if_pos (Nat.le_refl _)]
