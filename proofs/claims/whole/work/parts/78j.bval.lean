theorem m_valley {n W : Nat} {x : XS} {d : DS} (h : XR n W x d) : OKi (f_X10_valley x) (f_X11_valley d) := by
  have hn := h.iv.n8
  obtain ⟨N, hN, hs, hl, hlc⟩ := h.2.2.2.2.2.2.2.2.1
  have hlet : ∀ i, i < N → gT_let (gX_tell x) i = gD_let d i := fun i hi => (hlc i hi).1
  have hc : ∀ i, i < N → ∃ c, c < 256 ∧ gD_let d i = nI c := fun i hi => (hlc i hi).2
  have hz : NZ (gX_told x) := h.2.2.2.2.2.1.nz
  have hI := h.iv
  have hR := h.rv
  -- the class
  have c0 : f_X8_copy (gX_told x, gM_now (gX_mind x)) = some (xNow x, xNow x) := copy_X hz hI
  have c1 : f_X7_firstWrongLetter (gX_tell x) = some (wrI (p1 (gD_let d) N 100 0).1) := by rw [fw_X hs hN, p1_c hlet]
  have cX : f_X10_valley x = ((f_X7_tell (gX_tell x, xNow x)).bind fun z19 => if z19.1 ≤ 0 then some (z19.1, sX_tell (sX_told (sX_tell (sX_mind (sX_told x (xNow x)) (sM_now (gX_mind x) (xNow x))) z19.2.1) z19.2.2) (sT_size z19.2.1 0)) else ((f_X8_copy (xNow x, z19.2.2)).bind fun z42 => some (z19.1, sX_told (sX_mind (sX_tell (sX_told (sX_tell (sX_mind (sX_told x (xNow x)) (sM_now (gX_mind x) (xNow x))) z19.2.1) z19.2.2) (sT_size z19.2.1 0)) (sM_now (gX_mind x) z42.1)) z42.2))) := by
    unfold f_X10_valley
    rw [c0, Option.bind_some]
    rfl
  -- the reference
  obtain ⟨q, m', y, v1, v2⟩ := v10_M (d := d) hN hl hc 100 0 0 smN (gD_num d) (by omega) (by omega) (by unfold smN; omega)
  have v1 : f_X11_valley d = f_X11_valley_46 (Sd d q m') y (wr1 (p1 (gD_let d) N 100 0).1) := v1
  have v3 : ∀ x2, f_X11_valley_46 (Sd d q m') y x2 = f_X11_valley_62 smN (Sd (sD_s (sD_was d (cpT (gD_s d) (gD_was d) 99)) (gD_s d)) 0 m') y x2 := by
    intro x2
    unfold f_X11_valley_46
    have e4 : f_X11_copies (gD_s (Sd d q m'), gD_was (Sd d q m')) = some (gD_s d, cpT (gD_s d) (gD_was d) 99) := copies_M _ _
    rw [e4, Option.bind_some]
    rfl
  rw [cX, v1, v3]
  have hRL : ∀ (t : TS) (d' : DS), gT_size t = 0 → gD_letN d' = 0 → RLt t d' := fun t d' e1 e2 => ⟨0, by omega, e1, e2, fun i hi => absurd hi (Nat.not_lt_zero _)⟩
  have tl : f_X7_tell (gX_tell x, xNow x) = if wrI (p1 (gD_let d) N 100 0).1 = -9 then f_X7_tell_22 smN (gX_tell x, xNow x) 0 0 else some ((-1000 : Int32) - wrI (p1 (gD_let d) N 100 0).1, (gX_tell x, xNow x)) := by
    unfold f_X7_tell
    have c1 : f_X7_firstWrongLetter (gX_tell x, xNow x).1 = some (wrI (p1 (gD_let d) N 100 0).1) := c1
    rw [c1, Option.bind_some]
  rw [tl]
  cases hp : (p1 (gD_let d) N 100 0).1 with
  | some w =>
    have hw := p1_le (gD_let d) N 100 0 w (by omega) hp
    have nw : ¬ wrI (some w) = -9 := by
      show ¬ nI w = -9
      intro e
      have : ¬ (nI w < 0) := nI_pos (by omega)
      rw [e] at this
      exact this (by decide)
    have k := w1000 w (by omega)
    rw [if_neg nw, Option.bind_some]
    show OKi (if (-1000 : Int32) - nI w ≤ 0 then _ else _) (f_X11_valley_62 smN _ y ((-1000 : Int32) - nI w))
    rw [if_pos k.2.2.1, show smN = 999 + 1 from rfl, v62_end _ _ _ _ k.1]
    unfold f_X11_valley_128
    rw [if_neg k.1]
    refine ⟨_, _, _, n, W, rfl, rfl, ⟨hI, h.w, hR, h.th, h.2.2.2.2.1, hI.any, h.2.2.2.2.2.2.1, h.2.2.2.2.2.2.2.1, hRL _ _ rfl rfl, h.2.2.2.2.2.2.2.2.2⟩⟩
  | none =>
    rw [if_pos (show wrI none = -9 from rfl)]
    show OKi _ (f_X11_valley_62 smN _ y (-9))
    have hN0 : 0 < N := by
      rcases Nat.eq_zero_or_pos N with e | e
      · exfalso
        subst e
        have e2 : rdS (gD_let d) 0 0 = (false, 0) := by unfold rdS; rw [if_neg (by decide)]
        have := p1_no (t := gD_let d) (N := 0) (s := 0) 99 (by rw [e2])
        rw [show (99 + 1 : Nat) = 100 from rfl] at this
        rw [this] at hp
        cases hp
      · exact e
    have hy := v2 hp
    rw [Nat.zero_add] at hy
    have hcnt := p1_pos (gD_let d) N 100 0 hp
    have hsm : smN = 1000 := rfl
    rcases pass2 (dd := sD_was d (cpT (gD_s d) (gD_was d) 99)) (t := gX_tell x) hN hl hc hs hlet 100 0 0 smN smN n W (xNow x) (gD_s d) m' y hN0 (by omega) (by omega) (by omega) hI h.w hR (Or.inl rfl) hp with ⟨v', r', q0, m2, n', W', hI', hW', hR', e1, e2⟩ | ⟨v', r', q0, m2, w, hw, hA, e1, e2⟩
    · rw [Nat.zero_add] at e1
      have e1 : f_X7_tell_22 smN (gX_tell x, xNow x) 0 0 = some (nI (p1 (gD_let d) N 100 0).2, (gX_tell x, v')) := e1
      rw [e1, e2, Option.bind_some, hy]
      unfold f_X11_valley_128
      rw [if_pos rfl, if_neg (by rw [l0, ile (by omega) (by omega)]; omega)]
      have e3 : f_X8_copy (xNow x, v') = some (v', v') := copy_X hI.nz hI'
      show OKi ((f_X8_copy (xNow x, v')).bind _) _
      rw [e3, Option.bind_some]
      refine ⟨_, _, _, n', W', rfl, rfl, ⟨hI', hW', hR', h.th, h.2.2.2.2.1, hI'.any, h.2.2.2.2.2.2.1, h.2.2.2.2.2.2.2.1, hRL _ _ rfl rfl, h.2.2.2.2.2.2.2.2.2⟩⟩
    · have e1 : f_X7_tell_22 smN (gX_tell x, xNow x) 0 0 = some ((-2000 : Int32) - nI w, (gX_tell x, v')) := e1
      have k := w1000 w (by omega)
      rw [e1, e2, Option.bind_some]
      unfold f_X11_valley_128
      rw [if_neg k.2.1, if_pos k.2.2.2]
      refine ⟨_, _, _, n, W, rfl, rfl, ⟨hI, h.w, RV_cp r' (RV_cp (gD_was d) hR), h.th, h.2.2.2.2.1, hA, h.2.2.2.2.2.2.1, h.2.2.2.2.2.2.2.1, hRL _ _ rfl rfl, h.2.2.2.2.2.2.2.2.2⟩⟩
