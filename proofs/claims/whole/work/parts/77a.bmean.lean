/-! parts of a mean -/
theorem lcm0 {b : Nat} (hb : b < 2 ^ 40) : (lg_cmp (lN b) (0 : Int64) = 0) = (b = 0) := by
  unfold lg_cmp
  have h1 : (lN b > (0 : Int64)) ↔ 0 < b := pk_lLT (a := 0) (by decide) (by omega)
  have h2 : (lN b = (0 : Int64)) ↔ b = 0 := pk_lEQ (b := 0) (by omega) (by decide)
  apply propext
  by_cases e : b = 0
  · rw [if_neg (by rw [h1]; omega), if_pos (by rw [h2]; exact e)]; simp [e]
  · rw [if_pos (by rw [h1]; omega)]; simp [e]
theorem lcm1 {b : Nat} (hb : b < 2 ^ 40) (h : 0 < b) : 0 ≤ lg_cmp (lN b) (1 : Int64) := by
  unfold lg_cmp
  have h1 : (lN b > (1 : Int64)) ↔ 1 < b := pk_lLT (a := 1) (by decide) (by omega)
  have h2 : (lN b = (1 : Int64)) ↔ b = 1 := pk_lEQ (b := 1) (by omega) (by decide)
  by_cases e : b = 1
  · rw [if_neg (by rw [h1]; omega), if_pos (by rw [h2]; exact e)]; decide
  · rw [if_pos (by rw [h1]; omega)]; decide
theorem dzl_ok {α : Type} {b : Nat} (hb : b < 2 ^ 40) (h : ¬ b = 0) (x : Option α) : dzl (lN b) x = x := by
  unfold dzl
  rw [if_neg]
  intro e
  exact h ((pk_lEQ (b := 0) (by omega) (by decide)).mp e)
def EU (G i a b : Nat) : Prop := Nat.gcd a b = G ∧ a < 2 ^ 40 ∧ b < 2 ^ 40 ∧ (i = 0 ∨ (0 < a ∧ b ≤ a ∧ a * b * 2 ^ i ≤ 2 ^ 81))
theorem EU_s {G i a b : Nat} (h : EU G i a b) (hb : ¬ b = 0) : EU G (i + 1) b (a % b) := by
  obtain ⟨h1, h2, h3, h4⟩ := h
  have hm : a % b < b := Nat.mod_lt _ (by omega)
  refine ⟨by rw [← h1, Nat.gcd_comm b, ← Nat.gcd_rec, Nat.gcd_comm], h3, by omega, Or.inr ⟨by omega, by omega, ?_⟩⟩
  rcases h4 with rfl | ⟨h5, h6, h7⟩
  · have e1 : b * (a % b) ≤ 2 ^ 40 * 2 ^ 40 := Nat.mul_le_mul (by omega) (by omega)
    omega
  · have e2 : 2 * (a % b) ≤ a := by
      have := Nat.div_add_mod a b
      have q : 1 ≤ a / b := (Nat.one_le_div_iff (by omega)).mpr h6
      have : b * 1 ≤ b * (a / b) := Nat.mul_le_mul (Nat.le_refl _) q
      omega
    have e3 : b * (a % b) * 2 ^ (i + 1) = b * (2 * (a % b)) * 2 ^ i := by
      rw [Nat.pow_succ, Nat.mul_comm (2 ^ i) 2, ← Nat.mul_assoc, Nat.mul_assoc b (a % b) 2, Nat.mul_comm (a % b) 2]
    have e4 : b * (2 * (a % b)) * 2 ^ i ≤ b * a * 2 ^ i := Nat.mul_le_mul (Nat.mul_le_mul (Nat.le_refl _) e2) (Nat.le_refl _)
    rw [Nat.mul_comm b a] at e4
    omega
theorem EU_e {G a b : Nat} (h : EU G 82 a b) : b = 0 := by
  obtain ⟨-, -, -, h4⟩ := h
  rcases h4 with h4 | ⟨h5, h6, h7⟩
  · omega
  · rcases Nat.eq_zero_or_pos b with e | e
    · exact e
    · have : 1 * 1 ≤ a * b := Nat.mul_le_mul h5 e
      have : 1 * 2 ^ 82 ≤ a * b * 2 ^ 82 := Nat.mul_le_mul (by omega) (Nat.le_refl _)
      omega
theorem gd_X {a b : Nat} (ha : a < 2 ^ 40) (hb : b < 2 ^ 40) : f_X10_greatestDivisor (lN a) (lN b) = some (lN (Nat.gcd a b)) := by
  unfold f_X10_greatestDivisor f_X10_greatestDivisor_9
  refine lq3_inv (fun i x y c => (∃ x' y', x = lN x' ∧ y = lN y' ∧ EU (Nat.gcd a b) i x' y') ∧ c = nI i) (fun o => o = some (lN (Nat.gcd a b))) 82 ?_ smN _ _ _ (smN_gt (by omega)) ⟨⟨a, b, rfl, rfl, rfl, ha, hb, Or.inl rfl⟩, rfl⟩
  rintro i x y c hi ⟨⟨x, y, rfl, rfl, h⟩, rfl⟩
  unfold b_X10_greatestDivisor_9
  simp only [lcm0 h.2.2.1, show (100 : Int32) = nI 100 from rfl]
  simp (disch := omega) only [ile, i1]
  by_cases e : y = 0
  · right
    refine ⟨_, rfl, fun k => ?_⟩
    rw [if_neg (by omega), if_pos e, ← h.1, e, Nat.gcd_zero_right]
  · left
    have hi' : i < 82 := by
      rcases Nat.lt_or_ge i 82 with q | q
      · exact q
      · obtain rfl : i = 82 := by omega
        exact absurd (EU_e h) e
    have h2 := h.2.1
    have h3 := h.2.2.1
    refine ⟨lN y, lN (x % y), nI (i + 1), hi', ⟨⟨_, _, rfl, rfl, EU_s h e⟩, rfl⟩, fun k => ?_⟩
    rw [if_neg (by omega), if_neg e, dzl_ok h.2.2.1 e, pk_lRem (by omega) (by omega) (by omega)]
theorem gd_M {a b : Nat} (ha : a < 2 ^ 40) (hb : b < 2 ^ 40) : f_X11_gcd (lN a) (lN b) = some (lN (Nat.gcd a b)) := by
  unfold f_X11_gcd f_X11_gcd_6
  refine lq2_inv (fun i x y => (∃ x' y', x = lN x' ∧ y = lN y' ∧ EU (Nat.gcd a b) i x' y')) (fun o => o = some (lN (Nat.gcd a b))) 82 ?_ smN _ _ (smN_gt (by omega)) ⟨a, b, rfl, rfl, rfl, ha, hb, Or.inl rfl⟩
  rintro i x y hi ⟨x, y, rfl, rfl, h⟩
  unfold b_X11_gcd_6
  simp only [lcm0 h.2.2.1]
  by_cases e : y = 0
  · right
    refine ⟨_, rfl, fun k => ?_⟩
    rw [if_pos e, ← h.1, e, Nat.gcd_zero_right]
  · left
    have hi' : i < 82 := by
      rcases Nat.lt_or_ge i 82 with q | q
      · exact q
      · obtain rfl : i = 82 := by omega
        exact absurd (EU_e h) e
    have h2 := h.2.1
    have h3 := h.2.2.1
    refine ⟨lN y, lN (x % y), hi', ⟨_, _, rfl, rfl, EU_s h e⟩, fun k => ?_⟩
    rw [if_neg e, dzl_ok h.2.2.1 e, pk_lRem (by omega) (by omega) (by omega)]
def prt (a b k : Nat) : Nat := if k = 0 then a / Nat.gcd a b else b / Nat.gcd a b
theorem po_X {a b k : Nat} (ha : a < 2 ^ 40) (hb : b < 2 ^ 40) (h0 : 0 < b) (hk : k ≤ 1) : f_X10_partOf (lN a) (lN b) (nI k) = some (lN (prt a b k)) := by
  have hg : 0 < Nat.gcd a b := Nat.gcd_pos_of_pos_right a h0
  have hg2 : Nat.gcd a b ≤ b := Nat.gcd_le_right a h0
  unfold f_X10_partOf prt
  rw [gd_X ha hb, Option.bind_some, if_pos (lcm1 (by omega) hg), dzl_ok (by omega) (by omega), dzl_ok (by omega) (by omega), pk_lDiv (by omega) hg (by omega), pk_lDiv (by omega) hg (by omega)]
  simp (disch := omega) only [l0, ieq]
  split <;> rfl
theorem po_M {a b k : Nat} (ha : a < 2 ^ 40) (hb : b < 2 ^ 40) (h0 : a = 0 ∨ 0 < b) (hk : k ≤ 1) : f_X11_partOf (lN a) (lN b) (nI k) = some (lN (prt a (if 1 < b then b else 1) k)) := by
  unfold f_X11_partOf
  simp only [lcm0 ha]
  by_cases e : a = 0
  · rw [if_pos e, e, nI_l (by omega)]
    have hg : 0 < (if 1 < b then b else 1) := by split <;> omega
    unfold prt
    rw [Nat.gcd_zero_left, Nat.zero_div, Nat.div_self hg]
    rcases (show k = 0 ∨ k = 1 by omega) with rfl | rfl <;> rfl
  · have h0 : 0 < b := by omega
    have hg : 0 < Nat.gcd a b := Nat.gcd_pos_of_pos_right a h0
    have hg2 : Nat.gcd a b ≤ b := Nat.gcd_le_right a h0
    rw [if_neg e, show (if 1 < b then b else 1) = b by split <;> omega]
    unfold f_X11_partOf_20 prt
    rw [gd_M ha hb, Option.bind_some, dzl_ok (by omega) (by omega), Option.bind_some, dzl_ok (by omega) (by omega), pk_lDiv (by omega) hg (by omega), pk_lDiv (by omega) hg (by omega)]
    simp (disch := omega) only [l0, ieq]
    split <;> rfl
theorem OKl_ref {n W : Nat} {x : XS} {d : DS} (h : XR n W x d) {c : Int32} (hc : RC c) {fx : Option (Int64 × XS)} {fd : Option (Int64 × DS)} (hx : fx = some ((4000000000000000000 : Int64) - Int32.toInt64 c, bX x (cj c))) (hd : fd = some ((4000000000000000000 : Int64) - Int32.toInt64 c, bD d (cj c))) : OKl fx fd := ⟨_, _, _, n, W, hx, hd, XR_b h hc.lt⟩
theorem nw_M {c : Int32} (h : RC c) (d : DS) : f_X11_noWide d c = some ((4000000000000000000 : Int64) - Int32.toInt64 c, bD d (cj c)) := by
  unfold f_X11_noWide
  rw [no_M h, Option.bind_some]
theorem knT_le {u : VS} {n W : Nat} (hI : IV n W u) {p : Nat} (hp : p < 8) : ∀ i, i ≤ 8 → ∃ k, k ≤ 99 * i ∧ knT u p i = nI k := by
  intro i
  induction i with
  | zero => intro _; exact ⟨0, by omega, rfl⟩
  | succ i ih =>
    intro hi
    obtain ⟨k, h1, h2⟩ := ih (by omega)
    obtain ⟨m, h3, h4⟩ := hI.me (j := 8 * i + p) (by omega)
    simp only [knT]
    split
    · exact ⟨k, by omega, h2⟩
    · split
      · exact ⟨k, by omega, h2⟩
      · exact ⟨k + m, by omega, by rw [h2, h4, nI_add]⟩
theorem ktT_le {u : VS} {n W : Nat} (hI : IV n W u) : ∀ i, i ≤ n → ∃ k, k ≤ 800 * i ∧ ktT u n i = nI k ∧ ((∀ p, p < i → gV_here u p = 0) → k = 0) := by
  have hn := hI.n8
  intro i
  induction i with
  | zero => intro _; exact ⟨0, by omega, rfl, fun _ => rfl⟩
  | succ i ih =>
    intro hi
    obtain ⟨k, h1, h2, h5⟩ := ih (by omega)
    obtain ⟨m, h3, h4⟩ := knT_le hI (p := i) (by omega) n (by omega)
    simp only [ktT]
    split
    · exact ⟨k, by omega, h2, fun q => h5 (fun p hp => q p (by omega))⟩
    · rename_i g
      exact ⟨k + m, by omega, by unfold kn; rw [h2, h4, nI_add], fun q => absurd (q i (by omega)) g⟩
theorem pc8_0 : ∀ a, a < 256 → pc8 a = 0 → a = 0 := by decide +kernel
theorem cnt_none {u : VS} {n : Nat} (hn : n ≤ 8) (h : cnt u n = 0) : ∀ p, p < n → gV_here u p = 0 := by
  intro p hp
  have e := pc8_0 _ (hbN_256 u hn) h
  have b := hb_bit u n p
  rw [e] at b
  simp only [Nat.zero_testBit, hp, decide_true, Bool.true_and] at b
  rcases Classical.em (gV_here u p = 0) with g | g
  · exact g
  · simp [g] at b
theorem m_mean {n W : Nat} {x : XS} {d : DS} (h : XR n W x d) (v : Int32) : OKl (f_X10_mean x v) (f_X11_mean d v) := by
  have hn := h.iv.n8
  unfold f_X10_mean f_X11_mean
  rcases wwh v (hi := 1) (by decide) with ⟨k, hk, rfl, e1, e2⟩ | ⟨e1, e2, -⟩
  · have e1 : f_X10_wrongWhat (nI k) (1 : Int32) = some 0 := e1
    have e2 : f_X11_isIn (nI k) (0 : Int32) (1 : Int32) = some 1 := e2
    rw [e1, e2, Option.bind_some, Option.bind_some, ref1, cnt_0, Option.bind_some, if_pos rfl, if_neg (show ¬ (1 : Int32) = 0 by decide)]
    obtain ⟨t, t1, t2, t3⟩ := ktT_le h.iv n (Nat.le_refl _)
    have hc := pc8_le (hbN (xNow x) n)
    have hh := hbN_256 (xNow x) hn
    have q1 : f_X8_knownTogether (gM_now (gX_mind (((0 : Int32), x)).2)) = some (nI t) := by rw [← t2]; exact kt_X h.iv
    have q2 : f_X8_countHere (gM_now (gX_mind (((0 : Int32), x)).2)) = some (nI (cnt (xNow x) n)) := ch_cnt h.iv
    have q3 : f_X11_knownAll (gD_s d) = some (nI t) := by rw [← t2]; exact kt_M h.iv h.rv
    have hcn : cnt (xNow x) n ≤ 8 := hc
    have e0 : t = 0 ∨ 0 < cnt (xNow x) n := by
      rcases Nat.eq_zero_or_pos (cnt (xNow x) n) with g | g
      · exact Or.inl (t3 (cnt_none hn g))
      · exact Or.inr g
    have q5 : (if (1 : Int32) < nI (cnt (xNow x) n) then nI (cnt (xNow x) n) else (1 : Int32)) = nI (if 1 < cnt (xNow x) n then cnt (xNow x) n else 1) := by
      simp (disch := omega) only [l1, ilt]
      split <;> rfl
    have hx : (if 1 < cnt (xNow x) n then cnt (xNow x) n else 1) ≤ 8 ∧ 0 < (if 1 < cnt (xNow x) n then cnt (xNow x) n else 1) := by split <;> omega
    refine ⟨lN (prt t (if 1 < cnt (xNow x) n then cnt (xNow x) n else 1) k), x, d, n, W, ?_, ?_, h⟩
    · rw [q1, Option.bind_some, q2, Option.bind_some, q5, nI_l (by omega), nI_l (by omega), po_X (by omega) (by omega) (by omega) hk, Option.bind_some]
    · rw [q3, Option.bind_some, hb_M h.iv h.rv, Option.bind_some, bc_M hh, Option.bind_some, nI_l (by omega), nI_l (by omega)]
      show (f_X11_partOf (lN t) (lN (cnt (xNow x) n)) (nI k)).bind _ = _
      rw [po_M (by omega) (by omega) e0 hk, Option.bind_some]
  · have e1 : f_X10_wrongWhat v (1 : Int32) = some (-2) := e1
    have e2 : f_X11_isIn v (0 : Int32) (1 : Int32) = some 0 := e2
    rw [e1, e2, Option.bind_some, Option.bind_some, ref1, cnt_c rc2, Option.bind_some, if_neg (show ¬ (-2 : Int32) = 0 by decide), if_pos rfl]
    refine OKl_ref h rc2 rfl ?_
    rw [nw_M rc2, Option.bind_some]
