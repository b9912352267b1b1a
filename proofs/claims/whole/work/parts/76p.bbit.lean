/-! bits of numbers -/
theorem smod_i : ∀ i, i < 8 → ((nI i &&& 31).toBitVec.smod 32).toNat = i := by decide
theorem bitv (z : Int32) {i : Nat} (hi : i < 8) : ((z >>> (nI i &&& 31)) &&& (1 : Int32)) = (if z.toBitVec.getLsbD i = true then 1 else 0) := by
  have e : (z >>> (nI i &&& 31)).toBitVec = z.toBitVec.sshiftRight i := by
    rw [Int32.toBitVec_shiftRight]
    show z.toBitVec.sshiftRight ((nI i &&& 31).toBitVec.smod 32).toNat = _
    rw [smod_i i hi]
  rw [pk_and _ 1 (by decide), e]
  have h1 : (z.toBitVec.sshiftRight i).getLsbD 0 = z.toBitVec.getLsbD i := by
    rw [BitVec.getLsbD_sshiftRight]
    simp
    omega
  have h2 : (z.toBitVec.sshiftRight i).getLsbD 0 = decide ((z.toBitVec.sshiftRight i).toNat % 2 = 1) := by
    rw [BitVec.getLsbD, Nat.testBit_zero]
  rw [h1] at h2
  rw [h2]
  have h3 : (z.toBitVec.sshiftRight i).toNat % 2 < 2 := Nat.mod_lt _ (by decide)
  generalize (z.toBitVec.sshiftRight i).toNat % 2 = m at h3 ⊢
  match m, h3 with
  | 0, _ => rfl
  | 1, _ => rfl
theorem getN {a i : Nat} (ha : a < 2 ^ 32) : (nI a).toBitVec.getLsbD i = a.testBit i := by
  rw [BitVec.getLsbD, pk_tn ha]
theorem hb_bit (u : VS) : ∀ n i, (hbN u n).testBit i = (decide (i < n) && !decide (gV_here u i = 0)) := by
  intro n
  induction n with
  | zero => intro i; simp [hbN]
  | succ n ih =>
    intro i
    have hl := hbN_lt u n
    simp only [hbN]
    by_cases g : gV_here u n = 0
    · rw [if_pos g, ih]
      by_cases h : i = n
      · subst h; simp [g]
      · have : (i < n + 1) = (i < n) := propext (by omega)
        simp only [this]
    · rw [if_neg g, Nat.add_comm]
      rcases Nat.lt_trichotomy i n with h | h | h
      · rw [Nat.testBit_two_pow_add_gt h, ih]
        simp [h, show i < n + 1 by omega]
      · subst h
        rw [Nat.testBit_two_pow_add_eq, Nat.testBit_lt_two_pow hl]
        simp [g]
      · have e : 2 ^ (n + 1) ≤ 2 ^ i := Nat.pow_le_pow_right (by decide) (by omega)
        have e2 : 2 ^ (n + 1) = 2 ^ n + 2 ^ n := by rw [Nat.pow_succ]; omega
        rw [Nat.testBit_lt_two_pow (by omega)]
        simp [show ¬ i < n + 1 by omega]
theorem hbv (u : VS) {n i : Nat} (hn : n ≤ 8) (hi : i < n) : (nI (hbN u n)).toBitVec.getLsbD i = !decide (gV_here u i = 0) := by
  have := hbN_256 u hn
  rw [getN (by omega), hb_bit]
  simp [hi]
/-! debts void -/
def vdT (u w : VS) : Nat → Int32
  | 0 => 0
  | i + 1 => if gV_here u i = 0 then vdT u w i else if gV_here w i = 0 then vdT u w i + gV_owed u i else vdT u w i
theorem vd_X {u : MS} {n W k : Nat} (hI : IV n W (gM_now u)) (hW : W < 2 ^ 20) (ht : AnyV (gM_then u)) (hk : k ≤ 100) : f_X3_debtsVoid u (nI k) = some (vdT (gM_now u) (wks (gM_now u) n k) n, sM_then u (wks (gM_now u) n k)) := by
  have hn := hI.n8
  have hIw := IV_wks hI k
  unfold f_X3_debtsVoid
  have e1 : f_X8_hereBits (gM_then (sM_then u (wks (gM_now u) n k))) = some (nI (hbN (wks (gM_now u) n k) n)) := hb_X hIw
  rw [hb_X hI, Option.bind_some, af_X hI hW ht hk, Option.bind_some, e1, Option.bind_some]
  have hbit : ∀ i, i < n → (((nI (hbN (gM_now u) n) &&& (nI (hbN (wks (gM_now u) n k) n) ^^^ (-1 : Int32))) >>> (nI i &&& 31)) &&& (1 : Int32)) = if gV_here (gM_now u) i = 0 then 0 else if gV_here (wks (gM_now u) n k) i = 0 then 1 else 0 := by
    intro i hi
    have hm : (-1 : Int32).toBitVec.getLsbD i = true := by
      have : ∀ i, i < 8 → (-1 : Int32).toBitVec.getLsbD i = true := by decide
      exact this i (by omega)
    rw [bitv _ (by omega), Int32.toBitVec_and, Int32.toBitVec_xor, BitVec.getLsbD_and, BitVec.getLsbD_xor, hbv _ hn hi, hbv _ hn hi, hm]
    by_cases g1 : gV_here (gM_now u) i = 0
    · rw [if_pos g1]; simp [g1]
    · rw [if_neg g1]
      by_cases g2 : gV_here (wks (gM_now u) n k) i = 0
      · rw [if_pos g2]; simp [g1, g2]
      · rw [if_neg g2]; simp [g1, g2]
  generalize nI (hbN (gM_now u) n) &&& (nI (hbN (wks (gM_now u) n k) n) ^^^ (-1 : Int32)) = G at hbit ⊢
  generalize wks (gM_now u) n k = w at hbit ⊢
  unfold f_X3_debtsVoid_24
  refine lq4_inv (fun i a b c e => a = sM_then u w ∧ b = G ∧ c = vdT (gM_now u) w i ∧ e = nI i) (fun o => o = some (vdT (gM_now u) w n, sM_then u w)) n ?_ smN _ _ _ _ (smN_gt (by omega)) ⟨rfl, rfl, rfl, rfl⟩
  rintro i a b c e hi ⟨rfl, rfl, rfl, rfl⟩
  unfold b_X3_debtsVoid_24
  have e1 : gV_people (gM_now (sM_then u w)) = nI n := hI.pe
  rw [e1]
  rcases Nat.lt_or_ge i n with h | h
  · left
    refine ⟨sM_then u w, b, vdT (gM_now u) w (i + 1), nI (i + 1), h, ⟨rfl, rfl, rfl, rfl⟩, fun kk => ?_⟩
    rw [hbit i h]
    simp (disch := omega) only [ile, i1, ck_ok, icl, Int32.add_zero]
    rw [if_neg (by omega)]
    simp only [vdT]
    by_cases g1 : gV_here (gM_now u) i = 0
    · rw [if_pos g1, if_pos g1, if_neg (by decide)]
    · rw [if_neg g1, if_neg g1]
      by_cases g2 : gV_here w i = 0
      · rw [if_pos g2, if_pos g2, if_pos rfl]
      · rw [if_neg g2, if_neg g2, if_neg (by decide)]
  · right
    obtain rfl : i = n := by omega
    refine ⟨_, rfl, fun kk => ?_⟩
    simp (disch := omega) only [ile]
    rw [if_pos (Nat.le_refl _)]
theorem vd_M {d : DS} {u w : VS} {n W W' : Nat} (hI : IV n W u) (hR : RV u (gD_s d)) (hIw : IV n W' w) (hRw : RV w (gD_m d)) : f_X11_voids_28 smN d 0 0 = some (vdT u w n, d) := by
  have hn := hI.n8
  unfold f_X11_voids_28
  refine lq3_inv (fun i a c e => a = d ∧ c = vdT u w i ∧ e = nI i) (fun o => o = some (vdT u w n, d)) n ?_ smN _ _ _ (smN_gt (by omega)) ⟨rfl, rfl, rfl⟩
  rintro i a c e hi ⟨rfl, rfl, rfl⟩
  unfold b_X11_voids_28
  simp only [ck0, cl0, hR.pe.trans hI.pe]
  rcases Nat.lt_or_ge i n with h | h
  · left
    have hi8 : i < 8 := by omega
    have e4 : f_X11_of (nI i) (3 : Int32) = some (nI (3 + 4 * i + 3)) := f_of i 3
    refine ⟨a, vdT u w (i + 1), nI (i + 1), h, ⟨rfl, rfl, rfl⟩, fun kk => ?_⟩
    rw [here_M hI hR hi8, here_M hIw hRw hi8, e4]
    simp (disch := omega) only [ile, i1, ck_ok, icl, Int32.add_zero, Option.bind_some, hR.ow hi8]
    rw [if_neg (by omega)]
    simp only [vdT]
    by_cases g1 : gV_here u i = 0
    · rw [if_pos g1, if_pos g1]
    · rw [if_neg g1, if_neg g1]
      by_cases g2 : gV_here w i = 0
      · rw [if_pos g2, if_pos g2]
      · rw [if_neg g2, if_neg g2]
  · right
    obtain rfl : i = n := by omega
    refine ⟨_, rfl, fun kk => ?_⟩
    simp (disch := omega) only [ile]
    rw [if_pos (Nat.le_refl _)]
theorem m_voids {n W : Nat} {x : XS} {d : DS} (h : XR n W x d) (v : Int32) : OKi (f_X10_voids x v) (f_X11_voids d v) := by
  have hw := h.w
  unfold f_X10_voids f_X11_voids
  rw [out_eq]
  rcases rng v (lo := 1) (hi := 99) (by decide) (by decide) with ⟨k, -, hk, rfl, e3⟩ | ⟨c, hc, e3⟩
  · have e3 : f_X11_wrongBy (nI k) (1 : Int32) (99 : Int32) = some 0 := e3
    obtain ⟨r, g1, g2⟩ := tk_M h.iv h.rv (show k ≤ 100 by omega)
    have hI := IV_wks h.iv k
    have e5 : f_X11_voids_28 smN (sD_m d r) 0 0 = some (vdT (xNow x) (wks (xNow x) n k) n, sD_m d r) := vd_M (d := sD_m d r) h.iv h.rv hI g1
    refine ⟨vdT (xNow x) (wks (xNow x) n k) n, sX_mind x (sM_then (gX_mind x) (wks (xNow x) n k)), sD_m d r, n, W, ?_, ?_, XR_then h hI.any r⟩
    · rw [e3, Option.bind_some, ref1, cnt_0, Option.bind_some, if_pos rfl, vd_X h.iv (by omega) h.th (by omega), Option.bind_some]
    · rw [e3, Option.bind_some, if_pos rfl, g2, Option.bind_some, e5]
  · have e3 : f_X11_wrongBy v (1 : Int32) (99 : Int32) = some c := e3
    refine OK_ref h hc ?_ ?_
    · rw [e3, Option.bind_some, ref1, cnt_c hc, Option.bind_some, if_neg hc.ne]
    · rw [e3, Option.bind_some, if_neg hc.ne, no_M hc, Option.bind_some]
